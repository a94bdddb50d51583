section
-- ===== PART A: goes FIRST, ahead of the names: the tables' words, and 'selects' of the private methods out of them =====
/-- a private method of a class that the tables say can be made, by its rows of tables_1 -/
def lw_okq (q : MethodName × Nat) : Prop := (q.1.cls ≠ "java/lang/invoke/MethodHandle" ∧ q.1.cls ≠ "java/lang/invoke/VarHandle") ∧ Cond.instantiable q.1.cls q.2 ∈ tables_1 ∧ Cond.privateMethod q.1 ∈ tables_1 ∧ Cond.instanceMethod q.1 ∈ tables_1
theorem lw_p0 : lw_okq (⟨"GridMachine", "errorPosition", "()I"⟩, 11) := ⟨⟨by decide +kernel, by decide +kernel⟩, List.mem_of_getElem? (i := 8) (by decide +kernel), List.mem_of_getElem? (i := 158) (by decide +kernel), List.mem_of_getElem? (i := 159) (by decide +kernel)⟩
theorem lw_p1 : lw_okq (⟨"GridMachine", "keepForUndo", "()V"⟩, 11) := ⟨⟨by decide +kernel, by decide +kernel⟩, List.mem_of_getElem? (i := 8) (by decide +kernel), List.mem_of_getElem? (i := 165) (by decide +kernel), List.mem_of_getElem? (i := 166) (by decide +kernel)⟩
theorem lw_p2 : lw_okq (⟨"GridMachine", "readProgram", "()V"⟩, 11) := ⟨⟨by decide +kernel, by decide +kernel⟩, List.mem_of_getElem? (i := 8) (by decide +kernel), List.mem_of_getElem? (i := 181) (by decide +kernel), List.mem_of_getElem? (i := 182) (by decide +kernel)⟩
theorem lw_p3 : lw_okq (⟨"GridMachine", "advance", "(IZ)I"⟩, 11) := ⟨⟨by decide +kernel, by decide +kernel⟩, List.mem_of_getElem? (i := 8) (by decide +kernel), List.mem_of_getElem? (i := 220) (by decide +kernel), List.mem_of_getElem? (i := 221) (by decide +kernel)⟩
theorem lw_p4 : lw_okq (⟨"GridMachine$State", "takeTurn", "(I)V"⟩, 11) := ⟨⟨by decide +kernel, by decide +kernel⟩, List.mem_of_getElem? (i := 16) (by decide +kernel), List.mem_of_getElem? (i := 235) (by decide +kernel), List.mem_of_getElem? (i := 236) (by decide +kernel)⟩
theorem lw_p5 : lw_okq (⟨"GridMachine$State", "fetchCell", "(LGridMachine$Pointer;)V"⟩, 11) := ⟨⟨by decide +kernel, by decide +kernel⟩, List.mem_of_getElem? (i := 16) (by decide +kernel), List.mem_of_getElem? (i := 243) (by decide +kernel), List.mem_of_getElem? (i := 244) (by decide +kernel)⟩
theorem lw_p6 : lw_okq (⟨"GridMachine$State", "storeCell", "(LGridMachine$Pointer;)V"⟩, 11) := ⟨⟨by decide +kernel, by decide +kernel⟩, List.mem_of_getElem? (i := 16) (by decide +kernel), List.mem_of_getElem? (i := 261) (by decide +kernel), List.mem_of_getElem? (i := 262) (by decide +kernel)⟩
theorem lw_p7 : lw_okq (⟨"GridMachine$State", "addOutput", "(I)V"⟩, 11) := ⟨⟨by decide +kernel, by decide +kernel⟩, List.mem_of_getElem? (i := 16) (by decide +kernel), List.mem_of_getElem? (i := 266) (by decide +kernel), List.mem_of_getElem? (i := 267) (by decide +kernel)⟩
theorem lw_p8 : lw_okq (⟨"GridMachine$State", "takeInput", "(LGridMachine$Pointer;)V"⟩, 11) := ⟨⟨by decide +kernel, by decide +kernel⟩, List.mem_of_getElem? (i := 16) (by decide +kernel), List.mem_of_getElem? (i := 270) (by decide +kernel), List.mem_of_getElem? (i := 271) (by decide +kernel)⟩
theorem lw_p9 : lw_okq (⟨"GridMachine$State", "split", "(I)V"⟩, 11) := ⟨⟨by decide +kernel, by decide +kernel⟩, List.mem_of_getElem? (i := 16) (by decide +kernel), List.mem_of_getElem? (i := 278) (by decide +kernel), List.mem_of_getElem? (i := 279) (by decide +kernel)⟩
theorem lw_p10 : lw_okq (⟨"GridMachine$Pointer", "openStack", "(I)V"⟩, 9) := ⟨⟨by decide +kernel, by decide +kernel⟩, List.mem_of_getElem? (i := 23) (by decide +kernel), List.mem_of_getElem? (i := 295) (by decide +kernel), List.mem_of_getElem? (i := 296) (by decide +kernel)⟩
theorem lw_p11 : lw_okq (⟨"GridMachine$Pointer", "movable", "(I)I"⟩, 9) := ⟨⟨by decide +kernel, by decide +kernel⟩, List.mem_of_getElem? (i := 23) (by decide +kernel), List.mem_of_getElem? (i := 299) (by decide +kernel), List.mem_of_getElem? (i := 300) (by decide +kernel)⟩
theorem lw_p12 : lw_okq (⟨"GridMachine$Pointer", "closeStack", "()V"⟩, 9) := ⟨⟨by decide +kernel, by decide +kernel⟩, List.mem_of_getElem? (i := 23) (by decide +kernel), List.mem_of_getElem? (i := 303) (by decide +kernel), List.mem_of_getElem? (i := 304) (by decide +kernel)⟩
theorem lw_p13 : lw_okq (⟨"GridMachine$Pointer", "steer", "(I)V"⟩, 9) := ⟨⟨by decide +kernel, by decide +kernel⟩, List.mem_of_getElem? (i := 23) (by decide +kernel), List.mem_of_getElem? (i := 314) (by decide +kernel), List.mem_of_getElem? (i := 315) (by decide +kernel)⟩
theorem lw_p14 : lw_okq (⟨"GridMachine", "atBreakpoint", "()Z"⟩, 11) := ⟨⟨by decide +kernel, by decide +kernel⟩, List.mem_of_getElem? (i := 8) (by decide +kernel), List.mem_of_getElem? (i := 319) (by decide +kernel), List.mem_of_getElem? (i := 320) (by decide +kernel)⟩
theorem lw_p15 : lw_okq (⟨"GridMachine", "findPeriod", "(I)I"⟩, 11) := ⟨⟨by decide +kernel, by decide +kernel⟩, List.mem_of_getElem? (i := 8) (by decide +kernel), List.mem_of_getElem? (i := 344) (by decide +kernel), List.mem_of_getElem? (i := 345) (by decide +kernel)⟩
def lw_privs_1 : List (MethodName × Nat) := [(⟨"GridMachine", "errorPosition", "()I"⟩, 11), (⟨"GridMachine", "keepForUndo", "()V"⟩, 11), (⟨"GridMachine", "readProgram", "()V"⟩, 11), (⟨"GridMachine", "advance", "(IZ)I"⟩, 11), (⟨"GridMachine$State", "takeTurn", "(I)V"⟩, 11), (⟨"GridMachine$State", "fetchCell", "(LGridMachine$Pointer;)V"⟩, 11), (⟨"GridMachine$State", "storeCell", "(LGridMachine$Pointer;)V"⟩, 11), (⟨"GridMachine$State", "addOutput", "(I)V"⟩, 11), (⟨"GridMachine$State", "takeInput", "(LGridMachine$Pointer;)V"⟩, 11), (⟨"GridMachine$State", "split", "(I)V"⟩, 11), (⟨"GridMachine$Pointer", "openStack", "(I)V"⟩, 9), (⟨"GridMachine$Pointer", "movable", "(I)I"⟩, 9), (⟨"GridMachine$Pointer", "closeStack", "()V"⟩, 9), (⟨"GridMachine$Pointer", "steer", "(I)V"⟩, 9), (⟨"GridMachine", "atBreakpoint", "()Z"⟩, 11), (⟨"GridMachine", "findPeriod", "(I)I"⟩, 11)]
theorem lw_r1 : ∀ q ∈ lw_privs_1, lw_okq q := List.forall_mem_cons.mpr ⟨lw_p0, List.forall_mem_cons.mpr ⟨lw_p1, List.forall_mem_cons.mpr ⟨lw_p2, List.forall_mem_cons.mpr ⟨lw_p3, List.forall_mem_cons.mpr ⟨lw_p4, List.forall_mem_cons.mpr ⟨lw_p5, List.forall_mem_cons.mpr ⟨lw_p6, List.forall_mem_cons.mpr ⟨lw_p7, List.forall_mem_cons.mpr ⟨lw_p8, List.forall_mem_cons.mpr ⟨lw_p9, List.forall_mem_cons.mpr ⟨lw_p10, List.forall_mem_cons.mpr ⟨lw_p11, List.forall_mem_cons.mpr ⟨lw_p12, List.forall_mem_cons.mpr ⟨lw_p13, List.forall_mem_cons.mpr ⟨lw_p14, List.forall_mem_cons.mpr ⟨lw_p15, fun _ h => absurd h List.not_mem_nil⟩⟩⟩⟩⟩⟩⟩⟩⟩⟩⟩⟩⟩⟩⟩⟩
theorem lw_p16 : lw_okq (⟨"GridMachine", "findCycleEntry", "(II)I"⟩, 11) := ⟨⟨by decide +kernel, by decide +kernel⟩, List.mem_of_getElem? (i := 8) (by decide +kernel), List.mem_of_getElem? (i := 356) (by decide +kernel), List.mem_of_getElem? (i := 357) (by decide +kernel)⟩
theorem lw_p17 : lw_okq (⟨"GridMachine", "isPointer", "(I)Z"⟩, 11) := ⟨⟨by decide +kernel, by decide +kernel⟩, List.mem_of_getElem? (i := 8) (by decide +kernel), List.mem_of_getElem? (i := 380) (by decide +kernel), List.mem_of_getElem? (i := 381) (by decide +kernel)⟩
theorem lw_p18 : lw_okq (⟨"GridMachine", "isStack", "(II)Z"⟩, 11) := ⟨⟨by decide +kernel, by decide +kernel⟩, List.mem_of_getElem? (i := 8) (by decide +kernel), List.mem_of_getElem? (i := 408) (by decide +kernel), List.mem_of_getElem? (i := 409) (by decide +kernel)⟩
theorem lw_p19 : lw_okq (⟨"GridMachineModel", "begin", "()V"⟩, 14) := ⟨⟨by decide +kernel, by decide +kernel⟩, List.mem_of_getElem? (i := 452) (by decide +kernel), List.mem_of_getElem? (i := 458) (by decide +kernel), List.mem_of_getElem? (i := 459) (by decide +kernel)⟩
theorem lw_p20 : lw_okq (⟨"GridMachineModel", "errorPosition", "()I"⟩, 14) := ⟨⟨by decide +kernel, by decide +kernel⟩, List.mem_of_getElem? (i := 452) (by decide +kernel), List.mem_of_getElem? (i := 524) (by decide +kernel), List.mem_of_getElem? (i := 525) (by decide +kernel)⟩
theorem lw_p21 : lw_okq (⟨"GridMachineModel", "remember", "()V"⟩, 14) := ⟨⟨by decide +kernel, by decide +kernel⟩, List.mem_of_getElem? (i := 452) (by decide +kernel), List.mem_of_getElem? (i := 528) (by decide +kernel), List.mem_of_getElem? (i := 529) (by decide +kernel)⟩
theorem lw_p22 : lw_okq (⟨"GridMachineModel", "saveBefore", "()V"⟩, 14) := ⟨⟨by decide +kernel, by decide +kernel⟩, List.mem_of_getElem? (i := 452) (by decide +kernel), List.mem_of_getElem? (i := 532) (by decide +kernel), List.mem_of_getElem? (i := 533) (by decide +kernel)⟩
theorem lw_p23 : lw_okq (⟨"GridMachineModel", "perform", "(IZ)I"⟩, 14) := ⟨⟨by decide +kernel, by decide +kernel⟩, List.mem_of_getElem? (i := 452) (by decide +kernel), List.mem_of_getElem? (i := 555) (by decide +kernel), List.mem_of_getElem? (i := 556) (by decide +kernel)⟩
theorem lw_p24 : lw_okq (⟨"GridMachineModel", "isHalted", "()Z"⟩, 14) := ⟨⟨by decide +kernel, by decide +kernel⟩, List.mem_of_getElem? (i := 452) (by decide +kernel), List.mem_of_getElem? (i := 559) (by decide +kernel), List.mem_of_getElem? (i := 560) (by decide +kernel)⟩
theorem lw_p25 : lw_okq (⟨"GridMachineModel", "of", "(II)I"⟩, 14) := ⟨⟨by decide +kernel, by decide +kernel⟩, List.mem_of_getElem? (i := 452) (by decide +kernel), List.mem_of_getElem? (i := 563) (by decide +kernel), List.mem_of_getElem? (i := 564) (by decide +kernel)⟩
theorem lw_p26 : lw_okq (⟨"GridMachineModel", "step", "()V"⟩, 14) := ⟨⟨by decide +kernel, by decide +kernel⟩, List.mem_of_getElem? (i := 452) (by decide +kernel), List.mem_of_getElem? (i := 567) (by decide +kernel), List.mem_of_getElem? (i := 568) (by decide +kernel)⟩
theorem lw_p27 : lw_okq (⟨"GridMachineModel", "takeTurn", "(I)V"⟩, 14) := ⟨⟨by decide +kernel, by decide +kernel⟩, List.mem_of_getElem? (i := 452) (by decide +kernel), List.mem_of_getElem? (i := 571) (by decide +kernel), List.mem_of_getElem? (i := 572) (by decide +kernel)⟩
theorem lw_p28 : lw_okq (⟨"GridMachineModel", "put", "(III)V"⟩, 14) := ⟨⟨by decide +kernel, by decide +kernel⟩, List.mem_of_getElem? (i := 452) (by decide +kernel), List.mem_of_getElem? (i := 575) (by decide +kernel), List.mem_of_getElem? (i := 576) (by decide +kernel)⟩
theorem lw_p29 : lw_okq (⟨"GridMachineModel", "execute", "(II)V"⟩, 14) := ⟨⟨by decide +kernel, by decide +kernel⟩, List.mem_of_getElem? (i := 452) (by decide +kernel), List.mem_of_getElem? (i := 579) (by decide +kernel), List.mem_of_getElem? (i := 580) (by decide +kernel)⟩
theorem lw_p30 : lw_okq (⟨"GridMachineModel", "push", "(II)V"⟩, 14) := ⟨⟨by decide +kernel, by decide +kernel⟩, List.mem_of_getElem? (i := 452) (by decide +kernel), List.mem_of_getElem? (i := 583) (by decide +kernel), List.mem_of_getElem? (i := 584) (by decide +kernel)⟩
theorem lw_p31 : lw_okq (⟨"GridMachineModel", "heldBy", "(I)I"⟩, 14) := ⟨⟨by decide +kernel, by decide +kernel⟩, List.mem_of_getElem? (i := 452) (by decide +kernel), List.mem_of_getElem? (i := 587) (by decide +kernel), List.mem_of_getElem? (i := 588) (by decide +kernel)⟩
def lw_privs_2 : List (MethodName × Nat) := [(⟨"GridMachine", "findCycleEntry", "(II)I"⟩, 11), (⟨"GridMachine", "isPointer", "(I)Z"⟩, 11), (⟨"GridMachine", "isStack", "(II)Z"⟩, 11), (⟨"GridMachineModel", "begin", "()V"⟩, 14), (⟨"GridMachineModel", "errorPosition", "()I"⟩, 14), (⟨"GridMachineModel", "remember", "()V"⟩, 14), (⟨"GridMachineModel", "saveBefore", "()V"⟩, 14), (⟨"GridMachineModel", "perform", "(IZ)I"⟩, 14), (⟨"GridMachineModel", "isHalted", "()Z"⟩, 14), (⟨"GridMachineModel", "of", "(II)I"⟩, 14), (⟨"GridMachineModel", "step", "()V"⟩, 14), (⟨"GridMachineModel", "takeTurn", "(I)V"⟩, 14), (⟨"GridMachineModel", "put", "(III)V"⟩, 14), (⟨"GridMachineModel", "execute", "(II)V"⟩, 14), (⟨"GridMachineModel", "push", "(II)V"⟩, 14), (⟨"GridMachineModel", "heldBy", "(I)I"⟩, 14)]
theorem lw_r2 : ∀ q ∈ lw_privs_2, lw_okq q := List.forall_mem_cons.mpr ⟨lw_p16, List.forall_mem_cons.mpr ⟨lw_p17, List.forall_mem_cons.mpr ⟨lw_p18, List.forall_mem_cons.mpr ⟨lw_p19, List.forall_mem_cons.mpr ⟨lw_p20, List.forall_mem_cons.mpr ⟨lw_p21, List.forall_mem_cons.mpr ⟨lw_p22, List.forall_mem_cons.mpr ⟨lw_p23, List.forall_mem_cons.mpr ⟨lw_p24, List.forall_mem_cons.mpr ⟨lw_p25, List.forall_mem_cons.mpr ⟨lw_p26, List.forall_mem_cons.mpr ⟨lw_p27, List.forall_mem_cons.mpr ⟨lw_p28, List.forall_mem_cons.mpr ⟨lw_p29, List.forall_mem_cons.mpr ⟨lw_p30, List.forall_mem_cons.mpr ⟨lw_p31, fun _ h => absurd h List.not_mem_nil⟩⟩⟩⟩⟩⟩⟩⟩⟩⟩⟩⟩⟩⟩⟩⟩
theorem lw_p32 : lw_okq (⟨"GridMachineModel", "current", "(I)I"⟩, 14) := ⟨⟨by decide +kernel, by decide +kernel⟩, List.mem_of_getElem? (i := 452) (by decide +kernel), List.mem_of_getElem? (i := 591) (by decide +kernel), List.mem_of_getElem? (i := 592) (by decide +kernel)⟩
theorem lw_p33 : lw_okq (⟨"GridMachineModel", "pop", "(I)I"⟩, 14) := ⟨⟨by decide +kernel, by decide +kernel⟩, List.mem_of_getElem? (i := 452) (by decide +kernel), List.mem_of_getElem? (i := 595) (by decide +kernel), List.mem_of_getElem? (i := 596) (by decide +kernel)⟩
theorem lw_p34 : lw_okq (⟨"GridMachineModel", "duplicate", "(I)V"⟩, 14) := ⟨⟨by decide +kernel, by decide +kernel⟩, List.mem_of_getElem? (i := 452) (by decide +kernel), List.mem_of_getElem? (i := 602) (by decide +kernel), List.mem_of_getElem? (i := 603) (by decide +kernel)⟩
theorem lw_p35 : lw_okq (⟨"GridMachineModel", "swapTop", "(I)V"⟩, 14) := ⟨⟨by decide +kernel, by decide +kernel⟩, List.mem_of_getElem? (i := 452) (by decide +kernel), List.mem_of_getElem? (i := 606) (by decide +kernel), List.mem_of_getElem? (i := 607) (by decide +kernel)⟩
theorem lw_p36 : lw_okq (⟨"GridMachineModel", "turn", "(II)V"⟩, 14) := ⟨⟨by decide +kernel, by decide +kernel⟩, List.mem_of_getElem? (i := 452) (by decide +kernel), List.mem_of_getElem? (i := 610) (by decide +kernel), List.mem_of_getElem? (i := 611) (by decide +kernel)⟩
theorem lw_p37 : lw_okq (⟨"GridMachineModel", "move", "(I)V"⟩, 14) := ⟨⟨by decide +kernel, by decide +kernel⟩, List.mem_of_getElem? (i := 452) (by decide +kernel), List.mem_of_getElem? (i := 614) (by decide +kernel), List.mem_of_getElem? (i := 615) (by decide +kernel)⟩
theorem lw_p38 : lw_okq (⟨"GridMachineModel", "fetch", "(I)V"⟩, 14) := ⟨⟨by decide +kernel, by decide +kernel⟩, List.mem_of_getElem? (i := 452) (by decide +kernel), List.mem_of_getElem? (i := 618) (by decide +kernel), List.mem_of_getElem? (i := 619) (by decide +kernel)⟩
theorem lw_p39 : lw_okq (⟨"GridMachineModel", "store", "(I)V"⟩, 14) := ⟨⟨by decide +kernel, by decide +kernel⟩, List.mem_of_getElem? (i := 452) (by decide +kernel), List.mem_of_getElem? (i := 628) (by decide +kernel), List.mem_of_getElem? (i := 629) (by decide +kernel)⟩
theorem lw_p40 : lw_okq (⟨"GridMachineModel", "output", "(I)V"⟩, 14) := ⟨⟨by decide +kernel, by decide +kernel⟩, List.mem_of_getElem? (i := 452) (by decide +kernel), List.mem_of_getElem? (i := 632) (by decide +kernel), List.mem_of_getElem? (i := 633) (by decide +kernel)⟩
theorem lw_p41 : lw_okq (⟨"GridMachineModel", "input", "(I)V"⟩, 14) := ⟨⟨by decide +kernel, by decide +kernel⟩, List.mem_of_getElem? (i := 452) (by decide +kernel), List.mem_of_getElem? (i := 636) (by decide +kernel), List.mem_of_getElem? (i := 637) (by decide +kernel)⟩
theorem lw_p42 : lw_okq (⟨"GridMachineModel", "split", "(I)V"⟩, 14) := ⟨⟨by decide +kernel, by decide +kernel⟩, List.mem_of_getElem? (i := 452) (by decide +kernel), List.mem_of_getElem? (i := 643) (by decide +kernel), List.mem_of_getElem? (i := 644) (by decide +kernel)⟩
theorem lw_p43 : lw_okq (⟨"GridMachineModel", "openStack", "(I)V"⟩, 14) := ⟨⟨by decide +kernel, by decide +kernel⟩, List.mem_of_getElem? (i := 452) (by decide +kernel), List.mem_of_getElem? (i := 647) (by decide +kernel), List.mem_of_getElem? (i := 648) (by decide +kernel)⟩
theorem lw_p44 : lw_okq (⟨"GridMachineModel", "closeStack", "(I)V"⟩, 14) := ⟨⟨by decide +kernel, by decide +kernel⟩, List.mem_of_getElem? (i := 452) (by decide +kernel), List.mem_of_getElem? (i := 651) (by decide +kernel), List.mem_of_getElem? (i := 652) (by decide +kernel)⟩
theorem lw_p45 : lw_okq (⟨"GridMachineModel", "isAtBreakpoint", "()Z"⟩, 14) := ⟨⟨by decide +kernel, by decide +kernel⟩, List.mem_of_getElem? (i := 452) (by decide +kernel), List.mem_of_getElem? (i := 655) (by decide +kernel), List.mem_of_getElem? (i := 656) (by decide +kernel)⟩
theorem lw_p46 : lw_okq (⟨"GridMachineModel", "breakpoints", "()I"⟩, 14) := ⟨⟨by decide +kernel, by decide +kernel⟩, List.mem_of_getElem? (i := 452) (by decide +kernel), List.mem_of_getElem? (i := 667) (by decide +kernel), List.mem_of_getElem? (i := 668) (by decide +kernel)⟩
theorem lw_p47 : lw_okq (⟨"GridMachineModel", "halts", "(I)I"⟩, 14) := ⟨⟨by decide +kernel, by decide +kernel⟩, List.mem_of_getElem? (i := 452) (by decide +kernel), List.mem_of_getElem? (i := 675) (by decide +kernel), List.mem_of_getElem? (i := 676) (by decide +kernel)⟩
def lw_privs_3 : List (MethodName × Nat) := [(⟨"GridMachineModel", "current", "(I)I"⟩, 14), (⟨"GridMachineModel", "pop", "(I)I"⟩, 14), (⟨"GridMachineModel", "duplicate", "(I)V"⟩, 14), (⟨"GridMachineModel", "swapTop", "(I)V"⟩, 14), (⟨"GridMachineModel", "turn", "(II)V"⟩, 14), (⟨"GridMachineModel", "move", "(I)V"⟩, 14), (⟨"GridMachineModel", "fetch", "(I)V"⟩, 14), (⟨"GridMachineModel", "store", "(I)V"⟩, 14), (⟨"GridMachineModel", "output", "(I)V"⟩, 14), (⟨"GridMachineModel", "input", "(I)V"⟩, 14), (⟨"GridMachineModel", "split", "(I)V"⟩, 14), (⟨"GridMachineModel", "openStack", "(I)V"⟩, 14), (⟨"GridMachineModel", "closeStack", "(I)V"⟩, 14), (⟨"GridMachineModel", "isAtBreakpoint", "()Z"⟩, 14), (⟨"GridMachineModel", "breakpoints", "()I"⟩, 14), (⟨"GridMachineModel", "halts", "(I)I"⟩, 14)]
theorem lw_r3 : ∀ q ∈ lw_privs_3, lw_okq q := List.forall_mem_cons.mpr ⟨lw_p32, List.forall_mem_cons.mpr ⟨lw_p33, List.forall_mem_cons.mpr ⟨lw_p34, List.forall_mem_cons.mpr ⟨lw_p35, List.forall_mem_cons.mpr ⟨lw_p36, List.forall_mem_cons.mpr ⟨lw_p37, List.forall_mem_cons.mpr ⟨lw_p38, List.forall_mem_cons.mpr ⟨lw_p39, List.forall_mem_cons.mpr ⟨lw_p40, List.forall_mem_cons.mpr ⟨lw_p41, List.forall_mem_cons.mpr ⟨lw_p42, List.forall_mem_cons.mpr ⟨lw_p43, List.forall_mem_cons.mpr ⟨lw_p44, List.forall_mem_cons.mpr ⟨lw_p45, List.forall_mem_cons.mpr ⟨lw_p46, List.forall_mem_cons.mpr ⟨lw_p47, fun _ h => absurd h List.not_mem_nil⟩⟩⟩⟩⟩⟩⟩⟩⟩⟩⟩⟩⟩⟩⟩⟩
theorem lw_p48 : lw_okq (⟨"GridMachineModel", "setAside", "()V"⟩, 14) := ⟨⟨by decide +kernel, by decide +kernel⟩, List.mem_of_getElem? (i := 452) (by decide +kernel), List.mem_of_getElem? (i := 679) (by decide +kernel), List.mem_of_getElem? (i := 680) (by decide +kernel)⟩
theorem lw_p49 : lw_okq (⟨"GridMachineModel", "takeBack", "()V"⟩, 14) := ⟨⟨by decide +kernel, by decide +kernel⟩, List.mem_of_getElem? (i := 452) (by decide +kernel), List.mem_of_getElem? (i := 683) (by decide +kernel), List.mem_of_getElem? (i := 684) (by decide +kernel)⟩
theorem lw_p50 : lw_okq (⟨"GridMachineModel", "findCycle", "(I)V"⟩, 14) := ⟨⟨by decide +kernel, by decide +kernel⟩, List.mem_of_getElem? (i := 452) (by decide +kernel), List.mem_of_getElem? (i := 691) (by decide +kernel), List.mem_of_getElem? (i := 692) (by decide +kernel)⟩
theorem lw_p51 : lw_okq (⟨"GridMachineModel", "isSameAsFirst", "()Z"⟩, 14) := ⟨⟨by decide +kernel, by decide +kernel⟩, List.mem_of_getElem? (i := 452) (by decide +kernel), List.mem_of_getElem? (i := 695) (by decide +kernel), List.mem_of_getElem? (i := 696) (by decide +kernel)⟩
theorem lw_p52 : lw_okq (⟨"GridMachineModel", "isPointer", "(I)Z"⟩, 14) := ⟨⟨by decide +kernel, by decide +kernel⟩, List.mem_of_getElem? (i := 452) (by decide +kernel), List.mem_of_getElem? (i := 719) (by decide +kernel), List.mem_of_getElem? (i := 720) (by decide +kernel)⟩
theorem lw_p53 : lw_okq (⟨"GridMachineModel", "isStack", "(II)Z"⟩, 14) := ⟨⟨by decide +kernel, by decide +kernel⟩, List.mem_of_getElem? (i := 452) (by decide +kernel), List.mem_of_getElem? (i := 747) (by decide +kernel), List.mem_of_getElem? (i := 748) (by decide +kernel)⟩
def lw_privs_4 : List (MethodName × Nat) := [(⟨"GridMachineModel", "setAside", "()V"⟩, 14), (⟨"GridMachineModel", "takeBack", "()V"⟩, 14), (⟨"GridMachineModel", "findCycle", "(I)V"⟩, 14), (⟨"GridMachineModel", "isSameAsFirst", "()Z"⟩, 14), (⟨"GridMachineModel", "isPointer", "(I)Z"⟩, 14), (⟨"GridMachineModel", "isStack", "(II)Z"⟩, 14)]
theorem lw_r4 : ∀ q ∈ lw_privs_4, lw_okq q := List.forall_mem_cons.mpr ⟨lw_p48, List.forall_mem_cons.mpr ⟨lw_p49, List.forall_mem_cons.mpr ⟨lw_p50, List.forall_mem_cons.mpr ⟨lw_p51, List.forall_mem_cons.mpr ⟨lw_p52, List.forall_mem_cons.mpr ⟨lw_p53, fun _ h => absurd h List.not_mem_nil⟩⟩⟩⟩⟩⟩
def lw_privs : List (MethodName × Nat) := lw_privs_1 ++ (lw_privs_2 ++ (lw_privs_3 ++ (lw_privs_4)))
def lw_tbl : List Cond := k2_sels lw_privs ++ tables_1
theorem lw_privs_ok : ∀ q ∈ lw_privs, lw_okq q := by
  show ∀ q ∈ lw_privs_1 ++ (lw_privs_2 ++ (lw_privs_3 ++ (lw_privs_4))), lw_okq q
  exact List.forall_mem_append.mpr ⟨lw_r1, List.forall_mem_append.mpr ⟨lw_r2, List.forall_mem_append.mpr ⟨lw_r3, lw_r4⟩⟩⟩
end
section
def RX0 : String := "GridMachine$Pointer"
def TX0 : u_T := fun k => match k with
  | 0 => ("GridMachine$Pointer", "column", "I", false)
  | 1 => ("GridMachine$Pointer", "row", "I", false)
  | 2 => ("GridMachine$Pointer", "heading", "I", false)
  | 3 => ("GridMachine$Pointer", "condition", "I", false)
  | 4 => ("GridMachine$Pointer", "sleepLeft", "I", false)
  | 5 => ("GridMachine$Pointer", "values", "[I", true)
  | 6 => ("GridMachine$Pointer", "valuesUsed", "I", false)
  | 7 => ("GridMachine$Pointer", "sizes", "[I", true)
  | _ => ("GridMachine$Pointer", "stacksUsed", "I", false)
def tyX0 : Nat → FieldType := fun k => match k with
  | 0 => .int
  | 1 => .int
  | 2 => .int
  | 3 => .int
  | 4 => .int
  | 5 => .array .int
  | 6 => .int
  | 7 => .array .int
  | _ => .int
theorem nmX0 : ∀ a, a < 9 → ∀ b, b < 9 → a ≠ b → (TX0 a).2.1 ≠ (TX0 b).2.1 := by decide +kernel
theorem tyX0_ok : ∀ k, k < 9 → parseFieldDescriptor (TX0 k).2.2.1 = some (tyX0 k) := by decide +kernel
abbrev cX0_init : ByteArray := prog_2_method_1_code
def yX0_init : MethodName := ⟨RX0, "<init>", "()V"⟩
abbrev cX0_reset : ByteArray := prog_2_method_2_code
def yX0_reset : MethodName := ⟨RX0, "reset", "()V"⟩
abbrev cX0_copyFrom : ByteArray := prog_2_method_3_code
def yX0_copyFrom : MethodName := ⟨RX0, "copyFrom", "(LGridMachine$Pointer;)V"⟩
abbrev cX0_isLike : ByteArray := prog_2_method_4_code
def yX0_isLike : MethodName := ⟨RX0, "isLike", "(LGridMachine$Pointer;)Z"⟩
abbrev cX0_cell : ByteArray := prog_2_method_5_code
def yX0_cell : MethodName := ⟨RX0, "cell", "()I"⟩
abbrev cX0_stackBegin : ByteArray := prog_2_method_6_code
def yX0_stackBegin : MethodName := ⟨RX0, "stackBegin", "(I)I"⟩
abbrev cX0_step : ByteArray := prog_2_method_7_code
def yX0_step : MethodName := ⟨RX0, "step", "()V"⟩
abbrev cX0_turn : ByteArray := prog_2_method_8_code
def yX0_turn : MethodName := ⟨RX0, "turn", "(I)V"⟩
abbrev cX0_pop : ByteArray := prog_2_method_9_code
def yX0_pop : MethodName := ⟨RX0, "pop", "()I"⟩
abbrev cX0_push : ByteArray := prog_2_method_10_code
def yX0_push : MethodName := ⟨RX0, "push", "(I)V"⟩
abbrev cX0_perform : ByteArray := prog_2_method_11_code
def yX0_perform : MethodName := ⟨RX0, "perform", "(I)V"⟩
abbrev cX0_combine : ByteArray := prog_2_method_12_code
def yX0_combine : MethodName := ⟨RX0, "combine", "(III)I"⟩
abbrev cX0_steer : ByteArray := prog_2_method_13_code
def yX0_steer : MethodName := ⟨RX0, "steer", "(I)V"⟩
abbrev cX0_movable : ByteArray := prog_2_method_14_code
def yX0_movable : MethodName := ⟨RX0, "movable", "(I)I"⟩
abbrev cX0_openStack : ByteArray := prog_2_method_15_code
def yX0_openStack : MethodName := ⟨RX0, "openStack", "(I)V"⟩
abbrev cX0_closeStack : ByteArray := prog_2_method_16_code
def yX0_closeStack : MethodName := ⟨RX0, "closeStack", "()V"⟩
def RX1 : String := "GridMachine$State"
def TX1 : u_T := fun k => match k with
  | 0 => ("GridMachine$State", "program", "[I", true)
  | 1 => ("GridMachine$State", "grid", "[I", true)
  | 2 => ("GridMachine$State", "pointers", "[LGridMachine$Pointer;", true)
  | 3 => ("GridMachine$State", "order", "[I", true)
  | 4 => ("GridMachine$State", "pointersUsed", "I", false)
  | 5 => ("GridMachine$State", "input", "[I", true)
  | 6 => ("GridMachine$State", "inputCount", "I", false)
  | 7 => ("GridMachine$State", "output", "[I", true)
  | 8 => ("GridMachine$State", "outputCount", "I", false)
  | 9 => ("GridMachine$State", "outputEver", "I", false)
  | _ => ("GridMachine$State", "ticks", "I", false)
def tyX1 : Nat → FieldType := fun k => match k with
  | 0 => .array .int
  | 1 => .array .int
  | 2 => .array (.object "GridMachine$Pointer")
  | 3 => .array .int
  | 4 => .int
  | 5 => .array .int
  | 6 => .int
  | 7 => .array .int
  | 8 => .int
  | 9 => .int
  | _ => .int
theorem nmX1 : ∀ a, a < 11 → ∀ b, b < 11 → a ≠ b → (TX1 a).2.1 ≠ (TX1 b).2.1 := by decide +kernel
theorem tyX1_ok : ∀ k, k < 11 → parseFieldDescriptor (TX1 k).2.2.1 = some (tyX1 k) := by decide +kernel
abbrev cX1_init : ByteArray := prog_3_method_1_code
def yX1_init : MethodName := ⟨RX1, "<init>", "()V"⟩
abbrev cX1_copyFrom : ByteArray := prog_3_method_2_code
def yX1_copyFrom : MethodName := ⟨RX1, "copyFrom", "(LGridMachine$State;)V"⟩
abbrev cX1_hasConfigurationOf : ByteArray := prog_3_method_3_code
def yX1_hasConfigurationOf : MethodName := ⟨RX1, "hasConfigurationOf", "(LGridMachine$State;)Z"⟩
abbrev cX1_beginRun : ByteArray := prog_3_method_4_code
def yX1_beginRun : MethodName := ⟨RX1, "beginRun", "()V"⟩
abbrev cX1_countFilledCells : ByteArray := prog_3_method_5_code
def yX1_countFilledCells : MethodName := ⟨RX1, "countFilledCells", "()I"⟩
abbrev cX1_isHalted : ByteArray := prog_3_method_6_code
def yX1_isHalted : MethodName := ⟨RX1, "isHalted", "()Z"⟩
abbrev cX1_addInput : ByteArray := prog_3_method_7_code
def yX1_addInput : MethodName := ⟨RX1, "addInput", "(I)V"⟩
abbrev cX1_performTick : ByteArray := prog_3_method_8_code
def yX1_performTick : MethodName := ⟨RX1, "performTick", "()V"⟩
abbrev cX1_takeTurn : ByteArray := prog_3_method_9_code
def yX1_takeTurn : MethodName := ⟨RX1, "takeTurn", "(I)V"⟩
abbrev cX1_wrappedCell : ByteArray := prog_3_method_10_code
def yX1_wrappedCell : MethodName := ⟨RX1, "wrappedCell", "(II)I"⟩
abbrev cX1_fetchCell : ByteArray := prog_3_method_11_code
def yX1_fetchCell : MethodName := ⟨RX1, "fetchCell", "(LGridMachine$Pointer;)V"⟩
abbrev cX1_storeCell : ByteArray := prog_3_method_12_code
def yX1_storeCell : MethodName := ⟨RX1, "storeCell", "(LGridMachine$Pointer;)V"⟩
abbrev cX1_addOutput : ByteArray := prog_3_method_13_code
def yX1_addOutput : MethodName := ⟨RX1, "addOutput", "(I)V"⟩
abbrev cX1_takeInput : ByteArray := prog_3_method_14_code
def yX1_takeInput : MethodName := ⟨RX1, "takeInput", "(LGridMachine$Pointer;)V"⟩
abbrev cX1_split : ByteArray := prog_3_method_15_code
def yX1_split : MethodName := ⟨RX1, "split", "(I)V"⟩
def RX2 : String := "GridMachine"
def TX2 : u_T := fun k => match k with
  | 0 => ("GridMachine", "text", "[I", true)
  | 1 => ("GridMachine", "textLength", "I", false)
  | 2 => ("GridMachine", "breakpoints", "[Z", true)
  | 3 => ("GridMachine", "breakpointCount", "I", false)
  | 4 => ("GridMachine", "state", "LGridMachine$State;", true)
  | 5 => ("GridMachine", "undoStates", "[LGridMachine$State;", true)
  | 6 => ("GridMachine", "undoCount", "I", false)
  | 7 => ("GridMachine", "snapshots", "[LGridMachine$State;", true)
  | 8 => ("GridMachine", "snapshotTaken", "[Z", true)
  | 9 => ("GridMachine", "trial", "LGridMachine$State;", true)
  | _ => ("GridMachine", "secondTrial", "LGridMachine$State;", true)
def tyX2 : Nat → FieldType := fun k => match k with
  | 0 => .array .int
  | 1 => .int
  | 2 => .array .boolean
  | 3 => .int
  | 4 => .object "GridMachine$State"
  | 5 => .array (.object "GridMachine$State")
  | 6 => .int
  | 7 => .array (.object "GridMachine$State")
  | 8 => .array .boolean
  | 9 => .object "GridMachine$State"
  | _ => .object "GridMachine$State"
theorem nmX2 : ∀ a, a < 11 → ∀ b, b < 11 → a ≠ b → (TX2 a).2.1 ≠ (TX2 b).2.1 := by decide +kernel
theorem tyX2_ok : ∀ k, k < 11 → parseFieldDescriptor (TX2 k).2.2.1 = some (tyX2 k) := by decide +kernel
abbrev cX2_init : ByteArray := prog_1_method_1_code
def yX2_init : MethodName := ⟨RX2, "<init>", "()V"⟩
abbrev cX2_append : ByteArray := prog_1_method_2_code
def yX2_append : MethodName := ⟨RX2, "append", "(I)I"⟩
abbrev cX2_clearText : ByteArray := prog_1_method_3_code
def yX2_clearText : MethodName := ⟨RX2, "clearText", "()I"⟩
abbrev cX2_load : ByteArray := prog_1_method_4_code
def yX2_load : MethodName := ⟨RX2, "load", "()I"⟩
abbrev cX2_rewind : ByteArray := prog_1_method_5_code
def yX2_rewind : MethodName := ⟨RX2, "rewind", "()I"⟩
abbrev cX2_feed : ByteArray := prog_1_method_6_code
def yX2_feed : MethodName := ⟨RX2, "feed", "(I)I"⟩
abbrev cX2_poke : ByteArray := prog_1_method_7_code
def yX2_poke : MethodName := ⟨RX2, "poke", "(III)I"⟩
abbrev cX2_tick : ByteArray := prog_1_method_8_code
def yX2_tick : MethodName := ⟨RX2, "tick", "(I)I"⟩
abbrev cX2_run : ByteArray := prog_1_method_9_code
def yX2_run : MethodName := ⟨RX2, "run", "(I)I"⟩
abbrev cX2_setBreakpoint : ByteArray := prog_1_method_10_code
def yX2_setBreakpoint : MethodName := ⟨RX2, "setBreakpoint", "(III)I"⟩
abbrev cX2_undo : ByteArray := prog_1_method_11_code
def yX2_undo : MethodName := ⟨RX2, "undo", "()I"⟩
abbrev cX2_ticksToHalt : ByteArray := prog_1_method_12_code
def yX2_ticksToHalt : MethodName := ⟨RX2, "ticksToHalt", "(I)I"⟩
abbrev cX2_cycleStart : ByteArray := prog_1_method_13_code
def yX2_cycleStart : MethodName := ⟨RX2, "cycleStart", "(I)I"⟩
abbrev cX2_cycleLength : ByteArray := prog_1_method_14_code
def yX2_cycleLength : MethodName := ⟨RX2, "cycleLength", "(I)I"⟩
abbrev cX2_cellAt : ByteArray := prog_1_method_15_code
def yX2_cellAt : MethodName := ⟨RX2, "cellAt", "(II)I"⟩
abbrev cX2_changedCells : ByteArray := prog_1_method_16_code
def yX2_changedCells : MethodName := ⟨RX2, "changedCells", "()I"⟩
abbrev cX2_pointerCount : ByteArray := prog_1_method_17_code
def yX2_pointerCount : MethodName := ⟨RX2, "pointerCount", "()I"⟩
abbrev cX2_pointerAt : ByteArray := prog_1_method_18_code
def yX2_pointerAt : MethodName := ⟨RX2, "pointerAt", "(I)I"⟩
abbrev cX2_position : ByteArray := prog_1_method_19_code
def yX2_position : MethodName := ⟨RX2, "position", "(I)I"⟩
abbrev cX2_direction : ByteArray := prog_1_method_20_code
def yX2_direction : MethodName := ⟨RX2, "direction", "(I)I"⟩
abbrev cX2_status : ByteArray := prog_1_method_21_code
def yX2_status : MethodName := ⟨RX2, "status", "(I)I"⟩
abbrev cX2_sleep : ByteArray := prog_1_method_22_code
def yX2_sleep : MethodName := ⟨RX2, "sleep", "(I)I"⟩
abbrev cX2_stackCount : ByteArray := prog_1_method_23_code
def yX2_stackCount : MethodName := ⟨RX2, "stackCount", "(I)I"⟩
abbrev cX2_stackSize : ByteArray := prog_1_method_24_code
def yX2_stackSize : MethodName := ⟨RX2, "stackSize", "(II)I"⟩
abbrev cX2_valueAt : ByteArray := prog_1_method_25_code
def yX2_valueAt : MethodName := ⟨RX2, "valueAt", "(III)I"⟩
abbrev cX2_inputSize : ByteArray := prog_1_method_26_code
def yX2_inputSize : MethodName := ⟨RX2, "inputSize", "()I"⟩
abbrev cX2_outputSize : ByteArray := prog_1_method_27_code
def yX2_outputSize : MethodName := ⟨RX2, "outputSize", "()I"⟩
abbrev cX2_outputAt : ByteArray := prog_1_method_28_code
def yX2_outputAt : MethodName := ⟨RX2, "outputAt", "(I)I"⟩
abbrev cX2_outputTotal : ByteArray := prog_1_method_29_code
def yX2_outputTotal : MethodName := ⟨RX2, "outputTotal", "()I"⟩
abbrev cX2_tickCount : ByteArray := prog_1_method_30_code
def yX2_tickCount : MethodName := ⟨RX2, "tickCount", "()I"⟩
abbrev cX2_save : ByteArray := prog_1_method_31_code
def yX2_save : MethodName := ⟨RX2, "save", "(I)I"⟩
abbrev cX2_restore : ByteArray := prog_1_method_32_code
def yX2_restore : MethodName := ⟨RX2, "restore", "(I)I"⟩
abbrev cX2_undoDepth : ByteArray := prog_1_method_33_code
def yX2_undoDepth : MethodName := ⟨RX2, "undoDepth", "()I"⟩
abbrev cX2_isCell : ByteArray := prog_1_method_34_code
def yX2_isCell : MethodName := ⟨RX2, "isCell", "(II)Z"⟩
abbrev cX2_isCode : ByteArray := prog_1_method_35_code
def yX2_isCode : MethodName := ⟨RX2, "isCode", "(I)Z"⟩
abbrev cX2_isTickLimit : ByteArray := prog_1_method_36_code
def yX2_isTickLimit : MethodName := ⟨RX2, "isTickLimit", "(I)Z"⟩
abbrev cX2_isPointer : ByteArray := prog_1_method_37_code
def yX2_isPointer : MethodName := ⟨RX2, "isPointer", "(I)Z"⟩
abbrev cX2_isStack : ByteArray := prog_1_method_38_code
def yX2_isStack : MethodName := ⟨RX2, "isStack", "(II)Z"⟩
abbrev cX2_errorPosition : ByteArray := prog_1_method_39_code
def yX2_errorPosition : MethodName := ⟨RX2, "errorPosition", "()I"⟩
abbrev cX2_readProgram : ByteArray := prog_1_method_40_code
def yX2_readProgram : MethodName := ⟨RX2, "readProgram", "()V"⟩
abbrev cX2_keepForUndo : ByteArray := prog_1_method_41_code
def yX2_keepForUndo : MethodName := ⟨RX2, "keepForUndo", "()V"⟩
abbrev cX2_advance : ByteArray := prog_1_method_42_code
def yX2_advance : MethodName := ⟨RX2, "advance", "(IZ)I"⟩
abbrev cX2_atBreakpoint : ByteArray := prog_1_method_43_code
def yX2_atBreakpoint : MethodName := ⟨RX2, "atBreakpoint", "()Z"⟩
abbrev cX2_findPeriod : ByteArray := prog_1_method_44_code
def yX2_findPeriod : MethodName := ⟨RX2, "findPeriod", "(I)I"⟩
abbrev cX2_findCycleEntry : ByteArray := prog_1_method_45_code
def yX2_findCycleEntry : MethodName := ⟨RX2, "findCycleEntry", "(II)I"⟩
def RX3 : String := "GridMachineModel"
def TX3 : u_T := fun k => match k with
  | 0 => ("GridMachineModel", "now", "[I", true)
  | 1 => ("GridMachineModel", "before", "[I", true)
  | 2 => ("GridMachineModel", "aside", "[I", true)
  | 3 => ("GridMachineModel", "first", "[I", true)
  | 4 => ("GridMachineModel", "saved", "[I", true)
  | 5 => ("GridMachineModel", "savedCount", "I", false)
  | 6 => ("GridMachineModel", "slots", "[I", true)
  | 7 => ("GridMachineModel", "kept", "[Z", true)
  | 8 => ("GridMachineModel", "breakpoint", "[Z", true)
  | 9 => ("GridMachineModel", "text", "[I", true)
  | 10 => ("GridMachineModel", "typed", "I", false)
  | 11 => ("GridMachineModel", "turns", "[I", true)
  | 12 => ("GridMachineModel", "cycleFrom", "I", false)
  | _ => ("GridMachineModel", "cyclePeriod", "I", false)
def tyX3 : Nat → FieldType := fun k => match k with
  | 0 => .array .int
  | 1 => .array .int
  | 2 => .array .int
  | 3 => .array .int
  | 4 => .array .int
  | 5 => .int
  | 6 => .array .int
  | 7 => .array .boolean
  | 8 => .array .boolean
  | 9 => .array .int
  | 10 => .int
  | 11 => .array .int
  | 12 => .int
  | _ => .int
theorem nmX3 : ∀ a, a < 14 → ∀ b, b < 14 → a ≠ b → (TX3 a).2.1 ≠ (TX3 b).2.1 := by decide +kernel
theorem tyX3_ok : ∀ k, k < 14 → parseFieldDescriptor (TX3 k).2.2.1 = some (tyX3 k) := by decide +kernel
abbrev cX3_init : ByteArray := prog_5_method_1_code
def yX3_init : MethodName := ⟨RX3, "<init>", "()V"⟩
abbrev cX3_in : ByteArray := prog_5_method_2_code
def yX3_in : MethodName := ⟨RX3, "in", "(III)Z"⟩
abbrev cX3_isCell : ByteArray := prog_5_method_3_code
def yX3_isCell : MethodName := ⟨RX3, "isCell", "(II)Z"⟩
abbrev cX3_remember : ByteArray := prog_5_method_4_code
def yX3_remember : MethodName := ⟨RX3, "remember", "()V"⟩
abbrev cX3_saveBefore : ByteArray := prog_5_method_5_code
def yX3_saveBefore : MethodName := ⟨RX3, "saveBefore", "()V"⟩
abbrev cX3_undo : ByteArray := prog_5_method_6_code
def yX3_undo : MethodName := ⟨RX3, "undo", "()I"⟩
abbrev cX3_append : ByteArray := prog_5_method_7_code
def yX3_append : MethodName := ⟨RX3, "append", "(I)I"⟩
abbrev cX3_clearText : ByteArray := prog_5_method_8_code
def yX3_clearText : MethodName := ⟨RX3, "clearText", "()I"⟩
abbrev cX3_begin : ByteArray := prog_5_method_9_code
def yX3_begin : MethodName := ⟨RX3, "begin", "()V"⟩
abbrev cX3_errorPosition : ByteArray := prog_5_method_10_code
def yX3_errorPosition : MethodName := ⟨RX3, "errorPosition", "()I"⟩
abbrev cX3_load : ByteArray := prog_5_method_11_code
def yX3_load : MethodName := ⟨RX3, "load", "()I"⟩
abbrev cX3_rewind : ByteArray := prog_5_method_12_code
def yX3_rewind : MethodName := ⟨RX3, "rewind", "()I"⟩
abbrev cX3_feed : ByteArray := prog_5_method_13_code
def yX3_feed : MethodName := ⟨RX3, "feed", "(I)I"⟩
abbrev cX3_poke : ByteArray := prog_5_method_14_code
def yX3_poke : MethodName := ⟨RX3, "poke", "(III)I"⟩
abbrev cX3_of : ByteArray := prog_5_method_15_code
def yX3_of : MethodName := ⟨RX3, "of", "(II)I"⟩
abbrev cX3_put : ByteArray := prog_5_method_16_code
def yX3_put : MethodName := ⟨RX3, "put", "(III)V"⟩
abbrev cX3_heldBy : ByteArray := prog_5_method_17_code
def yX3_heldBy : MethodName := ⟨RX3, "heldBy", "(I)I"⟩
abbrev cX3_current : ByteArray := prog_5_method_18_code
def yX3_current : MethodName := ⟨RX3, "current", "(I)I"⟩
abbrev cX3_pop : ByteArray := prog_5_method_19_code
def yX3_pop : MethodName := ⟨RX3, "pop", "(I)I"⟩
abbrev cX3_push : ByteArray := prog_5_method_20_code
def yX3_push : MethodName := ⟨RX3, "push", "(II)V"⟩
abbrev cX3_modulo : ByteArray := prog_5_method_21_code
def yX3_modulo : MethodName := ⟨RX3, "modulo", "(II)I"⟩
abbrev cX3_move : ByteArray := prog_5_method_22_code
def yX3_move : MethodName := ⟨RX3, "move", "(I)V"⟩
abbrev cX3_turn : ByteArray := prog_5_method_23_code
def yX3_turn : MethodName := ⟨RX3, "turn", "(II)V"⟩
abbrev cX3_cell : ByteArray := prog_5_method_24_code
def yX3_cell : MethodName := ⟨RX3, "cell", "(II)I"⟩
abbrev cX3_operate : ByteArray := prog_5_method_25_code
def yX3_operate : MethodName := ⟨RX3, "operate", "(III)I"⟩
abbrev cX3_clamp : ByteArray := prog_5_method_26_code
def yX3_clamp : MethodName := ⟨RX3, "clamp", "(II)I"⟩
abbrev cX3_openStack : ByteArray := prog_5_method_27_code
def yX3_openStack : MethodName := ⟨RX3, "openStack", "(I)V"⟩
abbrev cX3_closeStack : ByteArray := prog_5_method_28_code
def yX3_closeStack : MethodName := ⟨RX3, "closeStack", "(I)V"⟩
abbrev cX3_output : ByteArray := prog_5_method_29_code
def yX3_output : MethodName := ⟨RX3, "output", "(I)V"⟩
abbrev cX3_input : ByteArray := prog_5_method_30_code
def yX3_input : MethodName := ⟨RX3, "input", "(I)V"⟩
abbrev cX3_split : ByteArray := prog_5_method_31_code
def yX3_split : MethodName := ⟨RX3, "split", "(I)V"⟩
abbrev cX3_swapTop : ByteArray := prog_5_method_32_code
def yX3_swapTop : MethodName := ⟨RX3, "swapTop", "(I)V"⟩
abbrev cX3_duplicate : ByteArray := prog_5_method_33_code
def yX3_duplicate : MethodName := ⟨RX3, "duplicate", "(I)V"⟩
abbrev cX3_store : ByteArray := prog_5_method_34_code
def yX3_store : MethodName := ⟨RX3, "store", "(I)V"⟩
abbrev cX3_fetch : ByteArray := prog_5_method_35_code
def yX3_fetch : MethodName := ⟨RX3, "fetch", "(I)V"⟩
abbrev cX3_execute : ByteArray := prog_5_method_36_code
def yX3_execute : MethodName := ⟨RX3, "execute", "(II)V"⟩
abbrev cX3_takeTurn : ByteArray := prog_5_method_37_code
def yX3_takeTurn : MethodName := ⟨RX3, "takeTurn", "(I)V"⟩
abbrev cX3_step : ByteArray := prog_5_method_38_code
def yX3_step : MethodName := ⟨RX3, "step", "()V"⟩
abbrev cX3_isHalted : ByteArray := prog_5_method_39_code
def yX3_isHalted : MethodName := ⟨RX3, "isHalted", "()Z"⟩
abbrev cX3_isAtBreakpoint : ByteArray := prog_5_method_40_code
def yX3_isAtBreakpoint : MethodName := ⟨RX3, "isAtBreakpoint", "()Z"⟩
abbrev cX3_perform : ByteArray := prog_5_method_41_code
def yX3_perform : MethodName := ⟨RX3, "perform", "(IZ)I"⟩
abbrev cX3_tick : ByteArray := prog_5_method_42_code
def yX3_tick : MethodName := ⟨RX3, "tick", "(I)I"⟩
abbrev cX3_run : ByteArray := prog_5_method_43_code
def yX3_run : MethodName := ⟨RX3, "run", "(I)I"⟩
abbrev cX3_breakpoints : ByteArray := prog_5_method_44_code
def yX3_breakpoints : MethodName := ⟨RX3, "breakpoints", "()I"⟩
abbrev cX3_setBreakpoint : ByteArray := prog_5_method_45_code
def yX3_setBreakpoint : MethodName := ⟨RX3, "setBreakpoint", "(III)I"⟩
abbrev cX3_setAside : ByteArray := prog_5_method_46_code
def yX3_setAside : MethodName := ⟨RX3, "setAside", "()V"⟩
abbrev cX3_takeBack : ByteArray := prog_5_method_47_code
def yX3_takeBack : MethodName := ⟨RX3, "takeBack", "()V"⟩
abbrev cX3_halts : ByteArray := prog_5_method_48_code
def yX3_halts : MethodName := ⟨RX3, "halts", "(I)I"⟩
abbrev cX3_ticksToHalt : ByteArray := prog_5_method_49_code
def yX3_ticksToHalt : MethodName := ⟨RX3, "ticksToHalt", "(I)I"⟩
abbrev cX3_isSameAsFirst : ByteArray := prog_5_method_50_code
def yX3_isSameAsFirst : MethodName := ⟨RX3, "isSameAsFirst", "()Z"⟩
abbrev cX3_findCycle : ByteArray := prog_5_method_51_code
def yX3_findCycle : MethodName := ⟨RX3, "findCycle", "(I)V"⟩
abbrev cX3_cycleStart : ByteArray := prog_5_method_52_code
def yX3_cycleStart : MethodName := ⟨RX3, "cycleStart", "(I)I"⟩
abbrev cX3_cycleLength : ByteArray := prog_5_method_53_code
def yX3_cycleLength : MethodName := ⟨RX3, "cycleLength", "(I)I"⟩
abbrev cX3_cellAt : ByteArray := prog_5_method_54_code
def yX3_cellAt : MethodName := ⟨RX3, "cellAt", "(II)I"⟩
abbrev cX3_changedCells : ByteArray := prog_5_method_55_code
def yX3_changedCells : MethodName := ⟨RX3, "changedCells", "()I"⟩
abbrev cX3_pointerCount : ByteArray := prog_5_method_56_code
def yX3_pointerCount : MethodName := ⟨RX3, "pointerCount", "()I"⟩
abbrev cX3_isPointer : ByteArray := prog_5_method_57_code
def yX3_isPointer : MethodName := ⟨RX3, "isPointer", "(I)Z"⟩
abbrev cX3_pointerAt : ByteArray := prog_5_method_58_code
def yX3_pointerAt : MethodName := ⟨RX3, "pointerAt", "(I)I"⟩
abbrev cX3_position : ByteArray := prog_5_method_59_code
def yX3_position : MethodName := ⟨RX3, "position", "(I)I"⟩
abbrev cX3_direction : ByteArray := prog_5_method_60_code
def yX3_direction : MethodName := ⟨RX3, "direction", "(I)I"⟩
abbrev cX3_status : ByteArray := prog_5_method_61_code
def yX3_status : MethodName := ⟨RX3, "status", "(I)I"⟩
abbrev cX3_sleep : ByteArray := prog_5_method_62_code
def yX3_sleep : MethodName := ⟨RX3, "sleep", "(I)I"⟩
abbrev cX3_stackCount : ByteArray := prog_5_method_63_code
def yX3_stackCount : MethodName := ⟨RX3, "stackCount", "(I)I"⟩
abbrev cX3_isStack : ByteArray := prog_5_method_64_code
def yX3_isStack : MethodName := ⟨RX3, "isStack", "(II)Z"⟩
abbrev cX3_stackSize : ByteArray := prog_5_method_65_code
def yX3_stackSize : MethodName := ⟨RX3, "stackSize", "(II)I"⟩
abbrev cX3_valueAt : ByteArray := prog_5_method_66_code
def yX3_valueAt : MethodName := ⟨RX3, "valueAt", "(III)I"⟩
abbrev cX3_inputSize : ByteArray := prog_5_method_67_code
def yX3_inputSize : MethodName := ⟨RX3, "inputSize", "()I"⟩
abbrev cX3_outputSize : ByteArray := prog_5_method_68_code
def yX3_outputSize : MethodName := ⟨RX3, "outputSize", "()I"⟩
abbrev cX3_outputAt : ByteArray := prog_5_method_69_code
def yX3_outputAt : MethodName := ⟨RX3, "outputAt", "(I)I"⟩
abbrev cX3_outputTotal : ByteArray := prog_5_method_70_code
def yX3_outputTotal : MethodName := ⟨RX3, "outputTotal", "()I"⟩
abbrev cX3_tickCount : ByteArray := prog_5_method_71_code
def yX3_tickCount : MethodName := ⟨RX3, "tickCount", "()I"⟩
abbrev cX3_save : ByteArray := prog_5_method_72_code
def yX3_save : MethodName := ⟨RX3, "save", "(I)I"⟩
abbrev cX3_restore : ByteArray := prog_5_method_73_code
def yX3_restore : MethodName := ⟨RX3, "restore", "(I)I"⟩
abbrev cX3_undoDepth : ByteArray := prog_5_method_74_code
def yX3_undoDepth : MethodName := ⟨RX3, "undoDepth", "()I"⟩
def RJ9 : String := "java/lang/Math"
abbrev cJ9_floorMod_7cf53 : ByteArray := prog_6_method_50_code
def yJ9_floorMod_7cf53 : MethodName := ⟨RJ9, "floorMod", "(II)I"⟩
abbrev cJ9_max_7cf53 : ByteArray := prog_6_method_65_code
def yJ9_max_7cf53 : MethodName := ⟨RJ9, "max", "(II)I"⟩
abbrev cJ9_min_7cf53 : ByteArray := prog_6_method_69_code
def yJ9_min_7cf53 : MethodName := ⟨RJ9, "min", "(II)I"⟩
def RJ10 : String := "java/lang/System"
def RL : String := "GridMachineLaw"
abbrev cL_law : ByteArray := code
def yL_law : MethodName := ⟨RL, "law", "([I)Z"⟩
abbrev vwCl : List vw_C := [(RX0, TX0, 9), (RX1, TX1, 11), (RX2, TX2, 11), (RX3, TX3, 14)]
end
section
theorem dJ9_floorMod_7cf53_0 : decode cJ9_floorMod_7cf53 0 = .ok (.iload_n 0, 1) := by decide +kernel
theorem dJ9_floorMod_7cf53_1 : decode cJ9_floorMod_7cf53 1 = .ok (.iload_n 1, 1) := by decide +kernel
theorem dJ9_floorMod_7cf53_2 : decode cJ9_floorMod_7cf53 2 = .ok (.irem, 1) := by decide +kernel
theorem dJ9_floorMod_7cf53_3 : decode cJ9_floorMod_7cf53 3 = .ok (.istore_n 2, 1) := by decide +kernel
theorem dJ9_floorMod_7cf53_4 : decode cJ9_floorMod_7cf53 4 = .ok (.iload_n 0, 1) := by decide +kernel
theorem dJ9_floorMod_7cf53_5 : decode cJ9_floorMod_7cf53 5 = .ok (.iload_n 1, 1) := by decide +kernel
theorem dJ9_floorMod_7cf53_6 : decode cJ9_floorMod_7cf53 6 = .ok (.ixor, 1) := by decide +kernel
theorem dJ9_floorMod_7cf53_7 : decode cJ9_floorMod_7cf53 7 = .ok (.ifCond .ge 11, 3) := by decide +kernel
theorem dJ9_floorMod_7cf53_10 : decode cJ9_floorMod_7cf53 10 = .ok (.iload_n 2, 1) := by decide +kernel
theorem dJ9_floorMod_7cf53_11 : decode cJ9_floorMod_7cf53 11 = .ok (.ifCond .eq 7, 3) := by decide +kernel
theorem dJ9_floorMod_7cf53_14 : decode cJ9_floorMod_7cf53 14 = .ok (.iload_n 2, 1) := by decide +kernel
theorem dJ9_floorMod_7cf53_15 : decode cJ9_floorMod_7cf53 15 = .ok (.iload_n 1, 1) := by decide +kernel
theorem dJ9_floorMod_7cf53_16 : decode cJ9_floorMod_7cf53 16 = .ok (.iadd, 1) := by decide +kernel
theorem dJ9_floorMod_7cf53_17 : decode cJ9_floorMod_7cf53 17 = .ok (.ireturn, 1) := by decide +kernel
theorem dJ9_floorMod_7cf53_18 : decode cJ9_floorMod_7cf53 18 = .ok (.iload_n 2, 1) := by decide +kernel
theorem dJ9_floorMod_7cf53_19 : decode cJ9_floorMod_7cf53 19 = .ok (.ireturn, 1) := by decide +kernel
theorem dJ9_max_7cf53_0 : decode cJ9_max_7cf53 0 = .ok (.iload_n 0, 1) := by decide +kernel
theorem dJ9_max_7cf53_1 : decode cJ9_max_7cf53 1 = .ok (.iload_n 1, 1) := by decide +kernel
theorem dJ9_max_7cf53_2 : decode cJ9_max_7cf53 2 = .ok (.if_icmp .lt 7, 3) := by decide +kernel
theorem dJ9_max_7cf53_5 : decode cJ9_max_7cf53 5 = .ok (.iload_n 0, 1) := by decide +kernel
theorem dJ9_max_7cf53_6 : decode cJ9_max_7cf53 6 = .ok (.goto 4, 3) := by decide +kernel
theorem dJ9_max_7cf53_9 : decode cJ9_max_7cf53 9 = .ok (.iload_n 1, 1) := by decide +kernel
theorem dJ9_max_7cf53_10 : decode cJ9_max_7cf53 10 = .ok (.ireturn, 1) := by decide +kernel
theorem dJ9_min_7cf53_0 : decode cJ9_min_7cf53 0 = .ok (.iload_n 0, 1) := by decide +kernel
theorem dJ9_min_7cf53_1 : decode cJ9_min_7cf53 1 = .ok (.iload_n 1, 1) := by decide +kernel
theorem dJ9_min_7cf53_2 : decode cJ9_min_7cf53 2 = .ok (.if_icmp .gt 7, 3) := by decide +kernel
theorem dJ9_min_7cf53_5 : decode cJ9_min_7cf53 5 = .ok (.iload_n 0, 1) := by decide +kernel
theorem dJ9_min_7cf53_6 : decode cJ9_min_7cf53 6 = .ok (.goto 4, 3) := by decide +kernel
theorem dJ9_min_7cf53_9 : decode cJ9_min_7cf53 9 = .ok (.iload_n 1, 1) := by decide +kernel
theorem dJ9_min_7cf53_10 : decode cJ9_min_7cf53 10 = .ok (.ireturn, 1) := by decide +kernel
end
section
theorem dL_law_0 : decode cL_law 0 = .ok (.new 7, 3) := by decide +kernel
theorem dL_law_3 : decode cL_law 3 = .ok (.dup, 1) := by decide +kernel
theorem dL_law_4 : decode cL_law 4 = .ok (.invokespecial 9, 3) := by decide +kernel
theorem dL_law_7 : decode cL_law 7 = .ok (.astore_n 1, 1) := by decide +kernel
theorem dL_law_8 : decode cL_law 8 = .ok (.new 10, 3) := by decide +kernel
theorem dL_law_11 : decode cL_law 11 = .ok (.dup, 1) := by decide +kernel
theorem dL_law_12 : decode cL_law 12 = .ok (.invokespecial 12, 3) := by decide +kernel
theorem dL_law_15 : decode cL_law 15 = .ok (.astore_n 2, 1) := by decide +kernel
theorem dL_law_16 : decode cL_law 16 = .ok (.iconst 0, 1) := by decide +kernel
theorem dL_law_17 : decode cL_law 17 = .ok (.istore_n 3, 1) := by decide +kernel
theorem dL_law_18 : decode cL_law 18 = .ok (.iload_n 3, 1) := by decide +kernel
theorem dL_law_19 : decode cL_law 19 = .ok (.aload_n 0, 1) := by decide +kernel
theorem dL_law_20 : decode cL_law 20 = .ok (.arraylength, 1) := by decide +kernel
theorem dL_law_21 : decode cL_law 21 = .ok (.iconst 4, 1) := by decide +kernel
theorem dL_law_22 : decode cL_law 22 = .ok (.isub, 1) := by decide +kernel
theorem dL_law_23 : decode cL_law 23 = .ok (.if_icmp .gt 865, 3) := by decide +kernel
theorem dL_law_26 : decode cL_law 26 = .ok (.aload_n 0, 1) := by decide +kernel
theorem dL_law_27 : decode cL_law 27 = .ok (.iload_n 3, 1) := by decide +kernel
theorem dL_law_28 : decode cL_law 28 = .ok (.iaload, 1) := by decide +kernel
theorem dL_law_29 : decode cL_law 29 = .ok (.bipush 31, 2) := by decide +kernel
theorem dL_law_31 : decode cL_law 31 = .ok (.iand, 1) := by decide +kernel
theorem dL_law_32 : decode cL_law 32 = .ok (.tableswitch 850 0 31 #[144, 167, 180, 193, 206, 229, 272, 295, 318, 361, 374, 397, 420, 443, 476, 489, 502, 525, 548, 571, 594, 617, 640, 673, 716, 729, 742, 765, 778, 791, 814, 837], 144) := by decide +kernel
theorem dL_law_176 : decode cL_law 176 = .ok (.aload_n 1, 1) := by decide +kernel
theorem dL_law_177 : decode cL_law 177 = .ok (.aload_n 0, 1) := by decide +kernel
theorem dL_law_178 : decode cL_law 178 = .ok (.iload_n 3, 1) := by decide +kernel
theorem dL_law_179 : decode cL_law 179 = .ok (.iconst 1, 1) := by decide +kernel
theorem dL_law_180 : decode cL_law 180 = .ok (.iadd, 1) := by decide +kernel
theorem dL_law_181 : decode cL_law 181 = .ok (.iaload, 1) := by decide +kernel
theorem dL_law_182 : decode cL_law 182 = .ok (.invokevirtual 13, 3) := by decide +kernel
theorem dL_law_185 : decode cL_law 185 = .ok (.aload_n 2, 1) := by decide +kernel
theorem dL_law_186 : decode cL_law 186 = .ok (.aload_n 0, 1) := by decide +kernel
theorem dL_law_187 : decode cL_law 187 = .ok (.iload_n 3, 1) := by decide +kernel
theorem dL_law_188 : decode cL_law 188 = .ok (.iconst 1, 1) := by decide +kernel
theorem dL_law_189 : decode cL_law 189 = .ok (.iadd, 1) := by decide +kernel
theorem dL_law_190 : decode cL_law 190 = .ok (.iaload, 1) := by decide +kernel
theorem dL_law_191 : decode cL_law 191 = .ok (.invokevirtual 17, 3) := by decide +kernel
theorem dL_law_194 : decode cL_law 194 = .ok (.if_icmp .eq 688, 3) := by decide +kernel
theorem dL_law_197 : decode cL_law 197 = .ok (.iconst 0, 1) := by decide +kernel
theorem dL_law_198 : decode cL_law 198 = .ok (.ireturn, 1) := by decide +kernel
theorem dL_law_199 : decode cL_law 199 = .ok (.aload_n 1, 1) := by decide +kernel
theorem dL_law_200 : decode cL_law 200 = .ok (.invokevirtual 18, 3) := by decide +kernel
theorem dL_law_203 : decode cL_law 203 = .ok (.aload_n 2, 1) := by decide +kernel
theorem dL_law_204 : decode cL_law 204 = .ok (.invokevirtual 22, 3) := by decide +kernel
theorem dL_law_207 : decode cL_law 207 = .ok (.if_icmp .eq 675, 3) := by decide +kernel
theorem dL_law_210 : decode cL_law 210 = .ok (.iconst 0, 1) := by decide +kernel
theorem dL_law_211 : decode cL_law 211 = .ok (.ireturn, 1) := by decide +kernel
theorem dL_law_212 : decode cL_law 212 = .ok (.aload_n 1, 1) := by decide +kernel
theorem dL_law_213 : decode cL_law 213 = .ok (.invokevirtual 23, 3) := by decide +kernel
theorem dL_law_216 : decode cL_law 216 = .ok (.aload_n 2, 1) := by decide +kernel
theorem dL_law_217 : decode cL_law 217 = .ok (.invokevirtual 26, 3) := by decide +kernel
theorem dL_law_220 : decode cL_law 220 = .ok (.if_icmp .eq 662, 3) := by decide +kernel
theorem dL_law_223 : decode cL_law 223 = .ok (.iconst 0, 1) := by decide +kernel
theorem dL_law_224 : decode cL_law 224 = .ok (.ireturn, 1) := by decide +kernel
theorem dL_law_225 : decode cL_law 225 = .ok (.aload_n 1, 1) := by decide +kernel
theorem dL_law_226 : decode cL_law 226 = .ok (.invokevirtual 27, 3) := by decide +kernel
theorem dL_law_229 : decode cL_law 229 = .ok (.aload_n 2, 1) := by decide +kernel
theorem dL_law_230 : decode cL_law 230 = .ok (.invokevirtual 30, 3) := by decide +kernel
theorem dL_law_233 : decode cL_law 233 = .ok (.if_icmp .eq 649, 3) := by decide +kernel
theorem dL_law_236 : decode cL_law 236 = .ok (.iconst 0, 1) := by decide +kernel
theorem dL_law_237 : decode cL_law 237 = .ok (.ireturn, 1) := by decide +kernel
theorem dL_law_238 : decode cL_law 238 = .ok (.aload_n 1, 1) := by decide +kernel
theorem dL_law_239 : decode cL_law 239 = .ok (.aload_n 0, 1) := by decide +kernel
theorem dL_law_240 : decode cL_law 240 = .ok (.iload_n 3, 1) := by decide +kernel
theorem dL_law_241 : decode cL_law 241 = .ok (.iconst 1, 1) := by decide +kernel
theorem dL_law_242 : decode cL_law 242 = .ok (.iadd, 1) := by decide +kernel
theorem dL_law_243 : decode cL_law 243 = .ok (.iaload, 1) := by decide +kernel
theorem dL_law_244 : decode cL_law 244 = .ok (.invokevirtual 31, 3) := by decide +kernel
theorem dL_law_247 : decode cL_law 247 = .ok (.aload_n 2, 1) := by decide +kernel
theorem dL_law_248 : decode cL_law 248 = .ok (.aload_n 0, 1) := by decide +kernel
theorem dL_law_249 : decode cL_law 249 = .ok (.iload_n 3, 1) := by decide +kernel
theorem dL_law_250 : decode cL_law 250 = .ok (.iconst 1, 1) := by decide +kernel
theorem dL_law_251 : decode cL_law 251 = .ok (.iadd, 1) := by decide +kernel
theorem dL_law_252 : decode cL_law 252 = .ok (.iaload, 1) := by decide +kernel
theorem dL_law_253 : decode cL_law 253 = .ok (.invokevirtual 34, 3) := by decide +kernel
theorem dL_law_256 : decode cL_law 256 = .ok (.if_icmp .eq 626, 3) := by decide +kernel
theorem dL_law_259 : decode cL_law 259 = .ok (.iconst 0, 1) := by decide +kernel
theorem dL_law_260 : decode cL_law 260 = .ok (.ireturn, 1) := by decide +kernel
theorem dL_law_261 : decode cL_law 261 = .ok (.aload_n 1, 1) := by decide +kernel
theorem dL_law_262 : decode cL_law 262 = .ok (.aload_n 0, 1) := by decide +kernel
theorem dL_law_263 : decode cL_law 263 = .ok (.iload_n 3, 1) := by decide +kernel
theorem dL_law_264 : decode cL_law 264 = .ok (.iconst 1, 1) := by decide +kernel
theorem dL_law_265 : decode cL_law 265 = .ok (.iadd, 1) := by decide +kernel
theorem dL_law_266 : decode cL_law 266 = .ok (.iaload, 1) := by decide +kernel
theorem dL_law_267 : decode cL_law 267 = .ok (.aload_n 0, 1) := by decide +kernel
theorem dL_law_268 : decode cL_law 268 = .ok (.iload_n 3, 1) := by decide +kernel
theorem dL_law_269 : decode cL_law 269 = .ok (.iconst 2, 1) := by decide +kernel
theorem dL_law_270 : decode cL_law 270 = .ok (.iadd, 1) := by decide +kernel
theorem dL_law_271 : decode cL_law 271 = .ok (.iaload, 1) := by decide +kernel
theorem dL_law_272 : decode cL_law 272 = .ok (.aload_n 0, 1) := by decide +kernel
theorem dL_law_273 : decode cL_law 273 = .ok (.iload_n 3, 1) := by decide +kernel
theorem dL_law_274 : decode cL_law 274 = .ok (.iconst 3, 1) := by decide +kernel
theorem dL_law_275 : decode cL_law 275 = .ok (.iadd, 1) := by decide +kernel
theorem dL_law_276 : decode cL_law 276 = .ok (.iaload, 1) := by decide +kernel
theorem dL_law_277 : decode cL_law 277 = .ok (.invokevirtual 35, 3) := by decide +kernel
theorem dL_law_280 : decode cL_law 280 = .ok (.aload_n 2, 1) := by decide +kernel
theorem dL_law_281 : decode cL_law 281 = .ok (.aload_n 0, 1) := by decide +kernel
theorem dL_law_282 : decode cL_law 282 = .ok (.iload_n 3, 1) := by decide +kernel
theorem dL_law_283 : decode cL_law 283 = .ok (.iconst 1, 1) := by decide +kernel
theorem dL_law_284 : decode cL_law 284 = .ok (.iadd, 1) := by decide +kernel
theorem dL_law_285 : decode cL_law 285 = .ok (.iaload, 1) := by decide +kernel
theorem dL_law_286 : decode cL_law 286 = .ok (.aload_n 0, 1) := by decide +kernel
theorem dL_law_287 : decode cL_law 287 = .ok (.iload_n 3, 1) := by decide +kernel
theorem dL_law_288 : decode cL_law 288 = .ok (.iconst 2, 1) := by decide +kernel
theorem dL_law_289 : decode cL_law 289 = .ok (.iadd, 1) := by decide +kernel
theorem dL_law_290 : decode cL_law 290 = .ok (.iaload, 1) := by decide +kernel
theorem dL_law_291 : decode cL_law 291 = .ok (.aload_n 0, 1) := by decide +kernel
theorem dL_law_292 : decode cL_law 292 = .ok (.iload_n 3, 1) := by decide +kernel
theorem dL_law_293 : decode cL_law 293 = .ok (.iconst 3, 1) := by decide +kernel
theorem dL_law_294 : decode cL_law 294 = .ok (.iadd, 1) := by decide +kernel
theorem dL_law_295 : decode cL_law 295 = .ok (.iaload, 1) := by decide +kernel
theorem dL_law_296 : decode cL_law 296 = .ok (.invokevirtual 39, 3) := by decide +kernel
theorem dL_law_299 : decode cL_law 299 = .ok (.if_icmp .eq 583, 3) := by decide +kernel
theorem dL_law_302 : decode cL_law 302 = .ok (.iconst 0, 1) := by decide +kernel
theorem dL_law_303 : decode cL_law 303 = .ok (.ireturn, 1) := by decide +kernel
theorem dL_law_304 : decode cL_law 304 = .ok (.aload_n 1, 1) := by decide +kernel
theorem dL_law_305 : decode cL_law 305 = .ok (.aload_n 0, 1) := by decide +kernel
theorem dL_law_306 : decode cL_law 306 = .ok (.iload_n 3, 1) := by decide +kernel
theorem dL_law_307 : decode cL_law 307 = .ok (.iconst 1, 1) := by decide +kernel
theorem dL_law_308 : decode cL_law 308 = .ok (.iadd, 1) := by decide +kernel
theorem dL_law_309 : decode cL_law 309 = .ok (.iaload, 1) := by decide +kernel
theorem dL_law_310 : decode cL_law 310 = .ok (.invokevirtual 40, 3) := by decide +kernel
theorem dL_law_313 : decode cL_law 313 = .ok (.aload_n 2, 1) := by decide +kernel
theorem dL_law_314 : decode cL_law 314 = .ok (.aload_n 0, 1) := by decide +kernel
theorem dL_law_315 : decode cL_law 315 = .ok (.iload_n 3, 1) := by decide +kernel
theorem dL_law_316 : decode cL_law 316 = .ok (.iconst 1, 1) := by decide +kernel
theorem dL_law_317 : decode cL_law 317 = .ok (.iadd, 1) := by decide +kernel
theorem dL_law_318 : decode cL_law 318 = .ok (.iaload, 1) := by decide +kernel
theorem dL_law_319 : decode cL_law 319 = .ok (.invokevirtual 43, 3) := by decide +kernel
theorem dL_law_322 : decode cL_law 322 = .ok (.if_icmp .eq 560, 3) := by decide +kernel
theorem dL_law_325 : decode cL_law 325 = .ok (.iconst 0, 1) := by decide +kernel
theorem dL_law_326 : decode cL_law 326 = .ok (.ireturn, 1) := by decide +kernel
theorem dL_law_327 : decode cL_law 327 = .ok (.aload_n 1, 1) := by decide +kernel
theorem dL_law_328 : decode cL_law 328 = .ok (.aload_n 0, 1) := by decide +kernel
theorem dL_law_329 : decode cL_law 329 = .ok (.iload_n 3, 1) := by decide +kernel
theorem dL_law_330 : decode cL_law 330 = .ok (.iconst 1, 1) := by decide +kernel
theorem dL_law_331 : decode cL_law 331 = .ok (.iadd, 1) := by decide +kernel
theorem dL_law_332 : decode cL_law 332 = .ok (.iaload, 1) := by decide +kernel
theorem dL_law_333 : decode cL_law 333 = .ok (.invokevirtual 44, 3) := by decide +kernel
theorem dL_law_336 : decode cL_law 336 = .ok (.aload_n 2, 1) := by decide +kernel
theorem dL_law_337 : decode cL_law 337 = .ok (.aload_n 0, 1) := by decide +kernel
theorem dL_law_338 : decode cL_law 338 = .ok (.iload_n 3, 1) := by decide +kernel
theorem dL_law_339 : decode cL_law 339 = .ok (.iconst 1, 1) := by decide +kernel
theorem dL_law_340 : decode cL_law 340 = .ok (.iadd, 1) := by decide +kernel
theorem dL_law_341 : decode cL_law 341 = .ok (.iaload, 1) := by decide +kernel
theorem dL_law_342 : decode cL_law 342 = .ok (.invokevirtual 47, 3) := by decide +kernel
theorem dL_law_345 : decode cL_law 345 = .ok (.if_icmp .eq 537, 3) := by decide +kernel
theorem dL_law_348 : decode cL_law 348 = .ok (.iconst 0, 1) := by decide +kernel
theorem dL_law_349 : decode cL_law 349 = .ok (.ireturn, 1) := by decide +kernel
theorem dL_law_350 : decode cL_law 350 = .ok (.aload_n 1, 1) := by decide +kernel
theorem dL_law_351 : decode cL_law 351 = .ok (.aload_n 0, 1) := by decide +kernel
theorem dL_law_352 : decode cL_law 352 = .ok (.iload_n 3, 1) := by decide +kernel
theorem dL_law_353 : decode cL_law 353 = .ok (.iconst 1, 1) := by decide +kernel
theorem dL_law_354 : decode cL_law 354 = .ok (.iadd, 1) := by decide +kernel
theorem dL_law_355 : decode cL_law 355 = .ok (.iaload, 1) := by decide +kernel
theorem dL_law_356 : decode cL_law 356 = .ok (.aload_n 0, 1) := by decide +kernel
theorem dL_law_357 : decode cL_law 357 = .ok (.iload_n 3, 1) := by decide +kernel
theorem dL_law_358 : decode cL_law 358 = .ok (.iconst 2, 1) := by decide +kernel
theorem dL_law_359 : decode cL_law 359 = .ok (.iadd, 1) := by decide +kernel
theorem dL_law_360 : decode cL_law 360 = .ok (.iaload, 1) := by decide +kernel
theorem dL_law_361 : decode cL_law 361 = .ok (.aload_n 0, 1) := by decide +kernel
theorem dL_law_362 : decode cL_law 362 = .ok (.iload_n 3, 1) := by decide +kernel
theorem dL_law_363 : decode cL_law 363 = .ok (.iconst 3, 1) := by decide +kernel
theorem dL_law_364 : decode cL_law 364 = .ok (.iadd, 1) := by decide +kernel
theorem dL_law_365 : decode cL_law 365 = .ok (.iaload, 1) := by decide +kernel
theorem dL_law_366 : decode cL_law 366 = .ok (.invokevirtual 48, 3) := by decide +kernel
theorem dL_law_369 : decode cL_law 369 = .ok (.aload_n 2, 1) := by decide +kernel
theorem dL_law_370 : decode cL_law 370 = .ok (.aload_n 0, 1) := by decide +kernel
theorem dL_law_371 : decode cL_law 371 = .ok (.iload_n 3, 1) := by decide +kernel
theorem dL_law_372 : decode cL_law 372 = .ok (.iconst 1, 1) := by decide +kernel
theorem dL_law_373 : decode cL_law 373 = .ok (.iadd, 1) := by decide +kernel
theorem dL_law_374 : decode cL_law 374 = .ok (.iaload, 1) := by decide +kernel
theorem dL_law_375 : decode cL_law 375 = .ok (.aload_n 0, 1) := by decide +kernel
theorem dL_law_376 : decode cL_law 376 = .ok (.iload_n 3, 1) := by decide +kernel
theorem dL_law_377 : decode cL_law 377 = .ok (.iconst 2, 1) := by decide +kernel
theorem dL_law_378 : decode cL_law 378 = .ok (.iadd, 1) := by decide +kernel
theorem dL_law_379 : decode cL_law 379 = .ok (.iaload, 1) := by decide +kernel
theorem dL_law_380 : decode cL_law 380 = .ok (.aload_n 0, 1) := by decide +kernel
theorem dL_law_381 : decode cL_law 381 = .ok (.iload_n 3, 1) := by decide +kernel
theorem dL_law_382 : decode cL_law 382 = .ok (.iconst 3, 1) := by decide +kernel
theorem dL_law_383 : decode cL_law 383 = .ok (.iadd, 1) := by decide +kernel
theorem dL_law_384 : decode cL_law 384 = .ok (.iaload, 1) := by decide +kernel
theorem dL_law_385 : decode cL_law 385 = .ok (.invokevirtual 51, 3) := by decide +kernel
theorem dL_law_388 : decode cL_law 388 = .ok (.if_icmp .eq 494, 3) := by decide +kernel
theorem dL_law_391 : decode cL_law 391 = .ok (.iconst 0, 1) := by decide +kernel
theorem dL_law_392 : decode cL_law 392 = .ok (.ireturn, 1) := by decide +kernel
theorem dL_law_393 : decode cL_law 393 = .ok (.aload_n 1, 1) := by decide +kernel
theorem dL_law_394 : decode cL_law 394 = .ok (.invokevirtual 52, 3) := by decide +kernel
theorem dL_law_397 : decode cL_law 397 = .ok (.aload_n 2, 1) := by decide +kernel
theorem dL_law_398 : decode cL_law 398 = .ok (.invokevirtual 55, 3) := by decide +kernel
theorem dL_law_401 : decode cL_law 401 = .ok (.if_icmp .eq 481, 3) := by decide +kernel
theorem dL_law_404 : decode cL_law 404 = .ok (.iconst 0, 1) := by decide +kernel
theorem dL_law_405 : decode cL_law 405 = .ok (.ireturn, 1) := by decide +kernel
theorem dL_law_406 : decode cL_law 406 = .ok (.aload_n 1, 1) := by decide +kernel
theorem dL_law_407 : decode cL_law 407 = .ok (.aload_n 0, 1) := by decide +kernel
theorem dL_law_408 : decode cL_law 408 = .ok (.iload_n 3, 1) := by decide +kernel
theorem dL_law_409 : decode cL_law 409 = .ok (.iconst 1, 1) := by decide +kernel
theorem dL_law_410 : decode cL_law 410 = .ok (.iadd, 1) := by decide +kernel
theorem dL_law_411 : decode cL_law 411 = .ok (.iaload, 1) := by decide +kernel
theorem dL_law_412 : decode cL_law 412 = .ok (.invokevirtual 56, 3) := by decide +kernel
theorem dL_law_415 : decode cL_law 415 = .ok (.aload_n 2, 1) := by decide +kernel
theorem dL_law_416 : decode cL_law 416 = .ok (.aload_n 0, 1) := by decide +kernel
theorem dL_law_417 : decode cL_law 417 = .ok (.iload_n 3, 1) := by decide +kernel
theorem dL_law_418 : decode cL_law 418 = .ok (.iconst 1, 1) := by decide +kernel
theorem dL_law_419 : decode cL_law 419 = .ok (.iadd, 1) := by decide +kernel
theorem dL_law_420 : decode cL_law 420 = .ok (.iaload, 1) := by decide +kernel
theorem dL_law_421 : decode cL_law 421 = .ok (.invokevirtual 59, 3) := by decide +kernel
theorem dL_law_424 : decode cL_law 424 = .ok (.if_icmp .eq 458, 3) := by decide +kernel
theorem dL_law_427 : decode cL_law 427 = .ok (.iconst 0, 1) := by decide +kernel
theorem dL_law_428 : decode cL_law 428 = .ok (.ireturn, 1) := by decide +kernel
theorem dL_law_429 : decode cL_law 429 = .ok (.aload_n 1, 1) := by decide +kernel
theorem dL_law_430 : decode cL_law 430 = .ok (.aload_n 0, 1) := by decide +kernel
theorem dL_law_431 : decode cL_law 431 = .ok (.iload_n 3, 1) := by decide +kernel
theorem dL_law_432 : decode cL_law 432 = .ok (.iconst 1, 1) := by decide +kernel
theorem dL_law_433 : decode cL_law 433 = .ok (.iadd, 1) := by decide +kernel
theorem dL_law_434 : decode cL_law 434 = .ok (.iaload, 1) := by decide +kernel
theorem dL_law_435 : decode cL_law 435 = .ok (.invokevirtual 60, 3) := by decide +kernel
theorem dL_law_438 : decode cL_law 438 = .ok (.aload_n 2, 1) := by decide +kernel
theorem dL_law_439 : decode cL_law 439 = .ok (.aload_n 0, 1) := by decide +kernel
theorem dL_law_440 : decode cL_law 440 = .ok (.iload_n 3, 1) := by decide +kernel
theorem dL_law_441 : decode cL_law 441 = .ok (.iconst 1, 1) := by decide +kernel
theorem dL_law_442 : decode cL_law 442 = .ok (.iadd, 1) := by decide +kernel
theorem dL_law_443 : decode cL_law 443 = .ok (.iaload, 1) := by decide +kernel
theorem dL_law_444 : decode cL_law 444 = .ok (.invokevirtual 63, 3) := by decide +kernel
theorem dL_law_447 : decode cL_law 447 = .ok (.if_icmp .eq 435, 3) := by decide +kernel
theorem dL_law_450 : decode cL_law 450 = .ok (.iconst 0, 1) := by decide +kernel
theorem dL_law_451 : decode cL_law 451 = .ok (.ireturn, 1) := by decide +kernel
theorem dL_law_452 : decode cL_law 452 = .ok (.aload_n 1, 1) := by decide +kernel
theorem dL_law_453 : decode cL_law 453 = .ok (.aload_n 0, 1) := by decide +kernel
theorem dL_law_454 : decode cL_law 454 = .ok (.iload_n 3, 1) := by decide +kernel
theorem dL_law_455 : decode cL_law 455 = .ok (.iconst 1, 1) := by decide +kernel
theorem dL_law_456 : decode cL_law 456 = .ok (.iadd, 1) := by decide +kernel
theorem dL_law_457 : decode cL_law 457 = .ok (.iaload, 1) := by decide +kernel
theorem dL_law_458 : decode cL_law 458 = .ok (.invokevirtual 64, 3) := by decide +kernel
theorem dL_law_461 : decode cL_law 461 = .ok (.aload_n 2, 1) := by decide +kernel
theorem dL_law_462 : decode cL_law 462 = .ok (.aload_n 0, 1) := by decide +kernel
theorem dL_law_463 : decode cL_law 463 = .ok (.iload_n 3, 1) := by decide +kernel
theorem dL_law_464 : decode cL_law 464 = .ok (.iconst 1, 1) := by decide +kernel
theorem dL_law_465 : decode cL_law 465 = .ok (.iadd, 1) := by decide +kernel
theorem dL_law_466 : decode cL_law 466 = .ok (.iaload, 1) := by decide +kernel
theorem dL_law_467 : decode cL_law 467 = .ok (.invokevirtual 67, 3) := by decide +kernel
theorem dL_law_470 : decode cL_law 470 = .ok (.if_icmp .eq 412, 3) := by decide +kernel
theorem dL_law_473 : decode cL_law 473 = .ok (.iconst 0, 1) := by decide +kernel
theorem dL_law_474 : decode cL_law 474 = .ok (.ireturn, 1) := by decide +kernel
theorem dL_law_475 : decode cL_law 475 = .ok (.aload_n 1, 1) := by decide +kernel
theorem dL_law_476 : decode cL_law 476 = .ok (.aload_n 0, 1) := by decide +kernel
theorem dL_law_477 : decode cL_law 477 = .ok (.iload_n 3, 1) := by decide +kernel
theorem dL_law_478 : decode cL_law 478 = .ok (.iconst 1, 1) := by decide +kernel
theorem dL_law_479 : decode cL_law 479 = .ok (.iadd, 1) := by decide +kernel
theorem dL_law_480 : decode cL_law 480 = .ok (.iaload, 1) := by decide +kernel
theorem dL_law_481 : decode cL_law 481 = .ok (.aload_n 0, 1) := by decide +kernel
theorem dL_law_482 : decode cL_law 482 = .ok (.iload_n 3, 1) := by decide +kernel
theorem dL_law_483 : decode cL_law 483 = .ok (.iconst 2, 1) := by decide +kernel
theorem dL_law_484 : decode cL_law 484 = .ok (.iadd, 1) := by decide +kernel
theorem dL_law_485 : decode cL_law 485 = .ok (.iaload, 1) := by decide +kernel
theorem dL_law_486 : decode cL_law 486 = .ok (.invokevirtual 68, 3) := by decide +kernel
theorem dL_law_489 : decode cL_law 489 = .ok (.aload_n 2, 1) := by decide +kernel
theorem dL_law_490 : decode cL_law 490 = .ok (.aload_n 0, 1) := by decide +kernel
theorem dL_law_491 : decode cL_law 491 = .ok (.iload_n 3, 1) := by decide +kernel
theorem dL_law_492 : decode cL_law 492 = .ok (.iconst 1, 1) := by decide +kernel
theorem dL_law_493 : decode cL_law 493 = .ok (.iadd, 1) := by decide +kernel
theorem dL_law_494 : decode cL_law 494 = .ok (.iaload, 1) := by decide +kernel
theorem dL_law_495 : decode cL_law 495 = .ok (.aload_n 0, 1) := by decide +kernel
theorem dL_law_496 : decode cL_law 496 = .ok (.iload_n 3, 1) := by decide +kernel
theorem dL_law_497 : decode cL_law 497 = .ok (.iconst 2, 1) := by decide +kernel
theorem dL_law_498 : decode cL_law 498 = .ok (.iadd, 1) := by decide +kernel
theorem dL_law_499 : decode cL_law 499 = .ok (.iaload, 1) := by decide +kernel
theorem dL_law_500 : decode cL_law 500 = .ok (.invokevirtual 72, 3) := by decide +kernel
theorem dL_law_503 : decode cL_law 503 = .ok (.if_icmp .eq 379, 3) := by decide +kernel
theorem dL_law_506 : decode cL_law 506 = .ok (.iconst 0, 1) := by decide +kernel
theorem dL_law_507 : decode cL_law 507 = .ok (.ireturn, 1) := by decide +kernel
theorem dL_law_508 : decode cL_law 508 = .ok (.aload_n 1, 1) := by decide +kernel
theorem dL_law_509 : decode cL_law 509 = .ok (.invokevirtual 73, 3) := by decide +kernel
theorem dL_law_512 : decode cL_law 512 = .ok (.aload_n 2, 1) := by decide +kernel
theorem dL_law_513 : decode cL_law 513 = .ok (.invokevirtual 76, 3) := by decide +kernel
theorem dL_law_516 : decode cL_law 516 = .ok (.if_icmp .eq 366, 3) := by decide +kernel
theorem dL_law_519 : decode cL_law 519 = .ok (.iconst 0, 1) := by decide +kernel
theorem dL_law_520 : decode cL_law 520 = .ok (.ireturn, 1) := by decide +kernel
theorem dL_law_521 : decode cL_law 521 = .ok (.aload_n 1, 1) := by decide +kernel
theorem dL_law_522 : decode cL_law 522 = .ok (.invokevirtual 77, 3) := by decide +kernel
theorem dL_law_525 : decode cL_law 525 = .ok (.aload_n 2, 1) := by decide +kernel
theorem dL_law_526 : decode cL_law 526 = .ok (.invokevirtual 80, 3) := by decide +kernel
theorem dL_law_529 : decode cL_law 529 = .ok (.if_icmp .eq 353, 3) := by decide +kernel
theorem dL_law_532 : decode cL_law 532 = .ok (.iconst 0, 1) := by decide +kernel
theorem dL_law_533 : decode cL_law 533 = .ok (.ireturn, 1) := by decide +kernel
theorem dL_law_534 : decode cL_law 534 = .ok (.aload_n 1, 1) := by decide +kernel
theorem dL_law_535 : decode cL_law 535 = .ok (.aload_n 0, 1) := by decide +kernel
theorem dL_law_536 : decode cL_law 536 = .ok (.iload_n 3, 1) := by decide +kernel
theorem dL_law_537 : decode cL_law 537 = .ok (.iconst 1, 1) := by decide +kernel
theorem dL_law_538 : decode cL_law 538 = .ok (.iadd, 1) := by decide +kernel
theorem dL_law_539 : decode cL_law 539 = .ok (.iaload, 1) := by decide +kernel
theorem dL_law_540 : decode cL_law 540 = .ok (.invokevirtual 81, 3) := by decide +kernel
theorem dL_law_543 : decode cL_law 543 = .ok (.aload_n 2, 1) := by decide +kernel
theorem dL_law_544 : decode cL_law 544 = .ok (.aload_n 0, 1) := by decide +kernel
theorem dL_law_545 : decode cL_law 545 = .ok (.iload_n 3, 1) := by decide +kernel
theorem dL_law_546 : decode cL_law 546 = .ok (.iconst 1, 1) := by decide +kernel
theorem dL_law_547 : decode cL_law 547 = .ok (.iadd, 1) := by decide +kernel
theorem dL_law_548 : decode cL_law 548 = .ok (.iaload, 1) := by decide +kernel
theorem dL_law_549 : decode cL_law 549 = .ok (.invokevirtual 84, 3) := by decide +kernel
theorem dL_law_552 : decode cL_law 552 = .ok (.if_icmp .eq 330, 3) := by decide +kernel
theorem dL_law_555 : decode cL_law 555 = .ok (.iconst 0, 1) := by decide +kernel
theorem dL_law_556 : decode cL_law 556 = .ok (.ireturn, 1) := by decide +kernel
theorem dL_law_557 : decode cL_law 557 = .ok (.aload_n 1, 1) := by decide +kernel
theorem dL_law_558 : decode cL_law 558 = .ok (.aload_n 0, 1) := by decide +kernel
theorem dL_law_559 : decode cL_law 559 = .ok (.iload_n 3, 1) := by decide +kernel
theorem dL_law_560 : decode cL_law 560 = .ok (.iconst 1, 1) := by decide +kernel
theorem dL_law_561 : decode cL_law 561 = .ok (.iadd, 1) := by decide +kernel
theorem dL_law_562 : decode cL_law 562 = .ok (.iaload, 1) := by decide +kernel
theorem dL_law_563 : decode cL_law 563 = .ok (.invokevirtual 85, 3) := by decide +kernel
theorem dL_law_566 : decode cL_law 566 = .ok (.aload_n 2, 1) := by decide +kernel
theorem dL_law_567 : decode cL_law 567 = .ok (.aload_n 0, 1) := by decide +kernel
theorem dL_law_568 : decode cL_law 568 = .ok (.iload_n 3, 1) := by decide +kernel
theorem dL_law_569 : decode cL_law 569 = .ok (.iconst 1, 1) := by decide +kernel
theorem dL_law_570 : decode cL_law 570 = .ok (.iadd, 1) := by decide +kernel
theorem dL_law_571 : decode cL_law 571 = .ok (.iaload, 1) := by decide +kernel
theorem dL_law_572 : decode cL_law 572 = .ok (.invokevirtual 88, 3) := by decide +kernel
theorem dL_law_575 : decode cL_law 575 = .ok (.if_icmp .eq 307, 3) := by decide +kernel
theorem dL_law_578 : decode cL_law 578 = .ok (.iconst 0, 1) := by decide +kernel
theorem dL_law_579 : decode cL_law 579 = .ok (.ireturn, 1) := by decide +kernel
theorem dL_law_580 : decode cL_law 580 = .ok (.aload_n 1, 1) := by decide +kernel
theorem dL_law_581 : decode cL_law 581 = .ok (.aload_n 0, 1) := by decide +kernel
theorem dL_law_582 : decode cL_law 582 = .ok (.iload_n 3, 1) := by decide +kernel
theorem dL_law_583 : decode cL_law 583 = .ok (.iconst 1, 1) := by decide +kernel
theorem dL_law_584 : decode cL_law 584 = .ok (.iadd, 1) := by decide +kernel
theorem dL_law_585 : decode cL_law 585 = .ok (.iaload, 1) := by decide +kernel
theorem dL_law_586 : decode cL_law 586 = .ok (.invokevirtual 89, 3) := by decide +kernel
theorem dL_law_589 : decode cL_law 589 = .ok (.aload_n 2, 1) := by decide +kernel
theorem dL_law_590 : decode cL_law 590 = .ok (.aload_n 0, 1) := by decide +kernel
theorem dL_law_591 : decode cL_law 591 = .ok (.iload_n 3, 1) := by decide +kernel
theorem dL_law_592 : decode cL_law 592 = .ok (.iconst 1, 1) := by decide +kernel
theorem dL_law_593 : decode cL_law 593 = .ok (.iadd, 1) := by decide +kernel
theorem dL_law_594 : decode cL_law 594 = .ok (.iaload, 1) := by decide +kernel
theorem dL_law_595 : decode cL_law 595 = .ok (.invokevirtual 92, 3) := by decide +kernel
theorem dL_law_598 : decode cL_law 598 = .ok (.if_icmp .eq 284, 3) := by decide +kernel
theorem dL_law_601 : decode cL_law 601 = .ok (.iconst 0, 1) := by decide +kernel
theorem dL_law_602 : decode cL_law 602 = .ok (.ireturn, 1) := by decide +kernel
theorem dL_law_603 : decode cL_law 603 = .ok (.aload_n 1, 1) := by decide +kernel
theorem dL_law_604 : decode cL_law 604 = .ok (.aload_n 0, 1) := by decide +kernel
theorem dL_law_605 : decode cL_law 605 = .ok (.iload_n 3, 1) := by decide +kernel
theorem dL_law_606 : decode cL_law 606 = .ok (.iconst 1, 1) := by decide +kernel
theorem dL_law_607 : decode cL_law 607 = .ok (.iadd, 1) := by decide +kernel
theorem dL_law_608 : decode cL_law 608 = .ok (.iaload, 1) := by decide +kernel
theorem dL_law_609 : decode cL_law 609 = .ok (.invokevirtual 93, 3) := by decide +kernel
theorem dL_law_612 : decode cL_law 612 = .ok (.aload_n 2, 1) := by decide +kernel
theorem dL_law_613 : decode cL_law 613 = .ok (.aload_n 0, 1) := by decide +kernel
theorem dL_law_614 : decode cL_law 614 = .ok (.iload_n 3, 1) := by decide +kernel
theorem dL_law_615 : decode cL_law 615 = .ok (.iconst 1, 1) := by decide +kernel
theorem dL_law_616 : decode cL_law 616 = .ok (.iadd, 1) := by decide +kernel
theorem dL_law_617 : decode cL_law 617 = .ok (.iaload, 1) := by decide +kernel
theorem dL_law_618 : decode cL_law 618 = .ok (.invokevirtual 96, 3) := by decide +kernel
theorem dL_law_621 : decode cL_law 621 = .ok (.if_icmp .eq 261, 3) := by decide +kernel
theorem dL_law_624 : decode cL_law 624 = .ok (.iconst 0, 1) := by decide +kernel
theorem dL_law_625 : decode cL_law 625 = .ok (.ireturn, 1) := by decide +kernel
theorem dL_law_626 : decode cL_law 626 = .ok (.aload_n 1, 1) := by decide +kernel
theorem dL_law_627 : decode cL_law 627 = .ok (.aload_n 0, 1) := by decide +kernel
theorem dL_law_628 : decode cL_law 628 = .ok (.iload_n 3, 1) := by decide +kernel
theorem dL_law_629 : decode cL_law 629 = .ok (.iconst 1, 1) := by decide +kernel
theorem dL_law_630 : decode cL_law 630 = .ok (.iadd, 1) := by decide +kernel
theorem dL_law_631 : decode cL_law 631 = .ok (.iaload, 1) := by decide +kernel
theorem dL_law_632 : decode cL_law 632 = .ok (.invokevirtual 97, 3) := by decide +kernel
theorem dL_law_635 : decode cL_law 635 = .ok (.aload_n 2, 1) := by decide +kernel
theorem dL_law_636 : decode cL_law 636 = .ok (.aload_n 0, 1) := by decide +kernel
theorem dL_law_637 : decode cL_law 637 = .ok (.iload_n 3, 1) := by decide +kernel
theorem dL_law_638 : decode cL_law 638 = .ok (.iconst 1, 1) := by decide +kernel
theorem dL_law_639 : decode cL_law 639 = .ok (.iadd, 1) := by decide +kernel
theorem dL_law_640 : decode cL_law 640 = .ok (.iaload, 1) := by decide +kernel
theorem dL_law_641 : decode cL_law 641 = .ok (.invokevirtual 100, 3) := by decide +kernel
theorem dL_law_644 : decode cL_law 644 = .ok (.if_icmp .eq 238, 3) := by decide +kernel
theorem dL_law_647 : decode cL_law 647 = .ok (.iconst 0, 1) := by decide +kernel
theorem dL_law_648 : decode cL_law 648 = .ok (.ireturn, 1) := by decide +kernel
theorem dL_law_649 : decode cL_law 649 = .ok (.aload_n 1, 1) := by decide +kernel
theorem dL_law_650 : decode cL_law 650 = .ok (.aload_n 0, 1) := by decide +kernel
theorem dL_law_651 : decode cL_law 651 = .ok (.iload_n 3, 1) := by decide +kernel
theorem dL_law_652 : decode cL_law 652 = .ok (.iconst 1, 1) := by decide +kernel
theorem dL_law_653 : decode cL_law 653 = .ok (.iadd, 1) := by decide +kernel
theorem dL_law_654 : decode cL_law 654 = .ok (.iaload, 1) := by decide +kernel
theorem dL_law_655 : decode cL_law 655 = .ok (.invokevirtual 101, 3) := by decide +kernel
theorem dL_law_658 : decode cL_law 658 = .ok (.aload_n 2, 1) := by decide +kernel
theorem dL_law_659 : decode cL_law 659 = .ok (.aload_n 0, 1) := by decide +kernel
theorem dL_law_660 : decode cL_law 660 = .ok (.iload_n 3, 1) := by decide +kernel
theorem dL_law_661 : decode cL_law 661 = .ok (.iconst 1, 1) := by decide +kernel
theorem dL_law_662 : decode cL_law 662 = .ok (.iadd, 1) := by decide +kernel
theorem dL_law_663 : decode cL_law 663 = .ok (.iaload, 1) := by decide +kernel
theorem dL_law_664 : decode cL_law 664 = .ok (.invokevirtual 104, 3) := by decide +kernel
theorem dL_law_667 : decode cL_law 667 = .ok (.if_icmp .eq 215, 3) := by decide +kernel
theorem dL_law_670 : decode cL_law 670 = .ok (.iconst 0, 1) := by decide +kernel
theorem dL_law_671 : decode cL_law 671 = .ok (.ireturn, 1) := by decide +kernel
theorem dL_law_672 : decode cL_law 672 = .ok (.aload_n 1, 1) := by decide +kernel
theorem dL_law_673 : decode cL_law 673 = .ok (.aload_n 0, 1) := by decide +kernel
theorem dL_law_674 : decode cL_law 674 = .ok (.iload_n 3, 1) := by decide +kernel
theorem dL_law_675 : decode cL_law 675 = .ok (.iconst 1, 1) := by decide +kernel
theorem dL_law_676 : decode cL_law 676 = .ok (.iadd, 1) := by decide +kernel
theorem dL_law_677 : decode cL_law 677 = .ok (.iaload, 1) := by decide +kernel
theorem dL_law_678 : decode cL_law 678 = .ok (.aload_n 0, 1) := by decide +kernel
theorem dL_law_679 : decode cL_law 679 = .ok (.iload_n 3, 1) := by decide +kernel
theorem dL_law_680 : decode cL_law 680 = .ok (.iconst 2, 1) := by decide +kernel
theorem dL_law_681 : decode cL_law 681 = .ok (.iadd, 1) := by decide +kernel
theorem dL_law_682 : decode cL_law 682 = .ok (.iaload, 1) := by decide +kernel
theorem dL_law_683 : decode cL_law 683 = .ok (.invokevirtual 105, 3) := by decide +kernel
theorem dL_law_686 : decode cL_law 686 = .ok (.aload_n 2, 1) := by decide +kernel
theorem dL_law_687 : decode cL_law 687 = .ok (.aload_n 0, 1) := by decide +kernel
theorem dL_law_688 : decode cL_law 688 = .ok (.iload_n 3, 1) := by decide +kernel
theorem dL_law_689 : decode cL_law 689 = .ok (.iconst 1, 1) := by decide +kernel
theorem dL_law_690 : decode cL_law 690 = .ok (.iadd, 1) := by decide +kernel
theorem dL_law_691 : decode cL_law 691 = .ok (.iaload, 1) := by decide +kernel
theorem dL_law_692 : decode cL_law 692 = .ok (.aload_n 0, 1) := by decide +kernel
theorem dL_law_693 : decode cL_law 693 = .ok (.iload_n 3, 1) := by decide +kernel
theorem dL_law_694 : decode cL_law 694 = .ok (.iconst 2, 1) := by decide +kernel
theorem dL_law_695 : decode cL_law 695 = .ok (.iadd, 1) := by decide +kernel
theorem dL_law_696 : decode cL_law 696 = .ok (.iaload, 1) := by decide +kernel
theorem dL_law_697 : decode cL_law 697 = .ok (.invokevirtual 108, 3) := by decide +kernel
theorem dL_law_700 : decode cL_law 700 = .ok (.if_icmp .eq 182, 3) := by decide +kernel
theorem dL_law_703 : decode cL_law 703 = .ok (.iconst 0, 1) := by decide +kernel
theorem dL_law_704 : decode cL_law 704 = .ok (.ireturn, 1) := by decide +kernel
theorem dL_law_705 : decode cL_law 705 = .ok (.aload_n 1, 1) := by decide +kernel
theorem dL_law_706 : decode cL_law 706 = .ok (.aload_n 0, 1) := by decide +kernel
theorem dL_law_707 : decode cL_law 707 = .ok (.iload_n 3, 1) := by decide +kernel
theorem dL_law_708 : decode cL_law 708 = .ok (.iconst 1, 1) := by decide +kernel
theorem dL_law_709 : decode cL_law 709 = .ok (.iadd, 1) := by decide +kernel
theorem dL_law_710 : decode cL_law 710 = .ok (.iaload, 1) := by decide +kernel
theorem dL_law_711 : decode cL_law 711 = .ok (.aload_n 0, 1) := by decide +kernel
theorem dL_law_712 : decode cL_law 712 = .ok (.iload_n 3, 1) := by decide +kernel
theorem dL_law_713 : decode cL_law 713 = .ok (.iconst 2, 1) := by decide +kernel
theorem dL_law_714 : decode cL_law 714 = .ok (.iadd, 1) := by decide +kernel
theorem dL_law_715 : decode cL_law 715 = .ok (.iaload, 1) := by decide +kernel
theorem dL_law_716 : decode cL_law 716 = .ok (.aload_n 0, 1) := by decide +kernel
theorem dL_law_717 : decode cL_law 717 = .ok (.iload_n 3, 1) := by decide +kernel
theorem dL_law_718 : decode cL_law 718 = .ok (.iconst 3, 1) := by decide +kernel
theorem dL_law_719 : decode cL_law 719 = .ok (.iadd, 1) := by decide +kernel
theorem dL_law_720 : decode cL_law 720 = .ok (.iaload, 1) := by decide +kernel
theorem dL_law_721 : decode cL_law 721 = .ok (.invokevirtual 109, 3) := by decide +kernel
theorem dL_law_724 : decode cL_law 724 = .ok (.aload_n 2, 1) := by decide +kernel
theorem dL_law_725 : decode cL_law 725 = .ok (.aload_n 0, 1) := by decide +kernel
theorem dL_law_726 : decode cL_law 726 = .ok (.iload_n 3, 1) := by decide +kernel
theorem dL_law_727 : decode cL_law 727 = .ok (.iconst 1, 1) := by decide +kernel
theorem dL_law_728 : decode cL_law 728 = .ok (.iadd, 1) := by decide +kernel
theorem dL_law_729 : decode cL_law 729 = .ok (.iaload, 1) := by decide +kernel
theorem dL_law_730 : decode cL_law 730 = .ok (.aload_n 0, 1) := by decide +kernel
theorem dL_law_731 : decode cL_law 731 = .ok (.iload_n 3, 1) := by decide +kernel
theorem dL_law_732 : decode cL_law 732 = .ok (.iconst 2, 1) := by decide +kernel
theorem dL_law_733 : decode cL_law 733 = .ok (.iadd, 1) := by decide +kernel
theorem dL_law_734 : decode cL_law 734 = .ok (.iaload, 1) := by decide +kernel
theorem dL_law_735 : decode cL_law 735 = .ok (.aload_n 0, 1) := by decide +kernel
theorem dL_law_736 : decode cL_law 736 = .ok (.iload_n 3, 1) := by decide +kernel
theorem dL_law_737 : decode cL_law 737 = .ok (.iconst 3, 1) := by decide +kernel
theorem dL_law_738 : decode cL_law 738 = .ok (.iadd, 1) := by decide +kernel
theorem dL_law_739 : decode cL_law 739 = .ok (.iaload, 1) := by decide +kernel
theorem dL_law_740 : decode cL_law 740 = .ok (.invokevirtual 112, 3) := by decide +kernel
theorem dL_law_743 : decode cL_law 743 = .ok (.if_icmp .eq 139, 3) := by decide +kernel
theorem dL_law_746 : decode cL_law 746 = .ok (.iconst 0, 1) := by decide +kernel
theorem dL_law_747 : decode cL_law 747 = .ok (.ireturn, 1) := by decide +kernel
theorem dL_law_748 : decode cL_law 748 = .ok (.aload_n 1, 1) := by decide +kernel
theorem dL_law_749 : decode cL_law 749 = .ok (.invokevirtual 113, 3) := by decide +kernel
theorem dL_law_752 : decode cL_law 752 = .ok (.aload_n 2, 1) := by decide +kernel
theorem dL_law_753 : decode cL_law 753 = .ok (.invokevirtual 116, 3) := by decide +kernel
theorem dL_law_756 : decode cL_law 756 = .ok (.if_icmp .eq 126, 3) := by decide +kernel
theorem dL_law_759 : decode cL_law 759 = .ok (.iconst 0, 1) := by decide +kernel
theorem dL_law_760 : decode cL_law 760 = .ok (.ireturn, 1) := by decide +kernel
theorem dL_law_761 : decode cL_law 761 = .ok (.aload_n 1, 1) := by decide +kernel
theorem dL_law_762 : decode cL_law 762 = .ok (.invokevirtual 117, 3) := by decide +kernel
theorem dL_law_765 : decode cL_law 765 = .ok (.aload_n 2, 1) := by decide +kernel
theorem dL_law_766 : decode cL_law 766 = .ok (.invokevirtual 120, 3) := by decide +kernel
theorem dL_law_769 : decode cL_law 769 = .ok (.if_icmp .eq 113, 3) := by decide +kernel
theorem dL_law_772 : decode cL_law 772 = .ok (.iconst 0, 1) := by decide +kernel
theorem dL_law_773 : decode cL_law 773 = .ok (.ireturn, 1) := by decide +kernel
theorem dL_law_774 : decode cL_law 774 = .ok (.aload_n 1, 1) := by decide +kernel
theorem dL_law_775 : decode cL_law 775 = .ok (.aload_n 0, 1) := by decide +kernel
theorem dL_law_776 : decode cL_law 776 = .ok (.iload_n 3, 1) := by decide +kernel
theorem dL_law_777 : decode cL_law 777 = .ok (.iconst 1, 1) := by decide +kernel
theorem dL_law_778 : decode cL_law 778 = .ok (.iadd, 1) := by decide +kernel
theorem dL_law_779 : decode cL_law 779 = .ok (.iaload, 1) := by decide +kernel
theorem dL_law_780 : decode cL_law 780 = .ok (.invokevirtual 121, 3) := by decide +kernel
theorem dL_law_783 : decode cL_law 783 = .ok (.aload_n 2, 1) := by decide +kernel
theorem dL_law_784 : decode cL_law 784 = .ok (.aload_n 0, 1) := by decide +kernel
theorem dL_law_785 : decode cL_law 785 = .ok (.iload_n 3, 1) := by decide +kernel
theorem dL_law_786 : decode cL_law 786 = .ok (.iconst 1, 1) := by decide +kernel
theorem dL_law_787 : decode cL_law 787 = .ok (.iadd, 1) := by decide +kernel
theorem dL_law_788 : decode cL_law 788 = .ok (.iaload, 1) := by decide +kernel
theorem dL_law_789 : decode cL_law 789 = .ok (.invokevirtual 124, 3) := by decide +kernel
theorem dL_law_792 : decode cL_law 792 = .ok (.if_icmp .eq 90, 3) := by decide +kernel
theorem dL_law_795 : decode cL_law 795 = .ok (.iconst 0, 1) := by decide +kernel
theorem dL_law_796 : decode cL_law 796 = .ok (.ireturn, 1) := by decide +kernel
theorem dL_law_797 : decode cL_law 797 = .ok (.aload_n 1, 1) := by decide +kernel
theorem dL_law_798 : decode cL_law 798 = .ok (.invokevirtual 125, 3) := by decide +kernel
theorem dL_law_801 : decode cL_law 801 = .ok (.aload_n 2, 1) := by decide +kernel
theorem dL_law_802 : decode cL_law 802 = .ok (.invokevirtual 128, 3) := by decide +kernel
theorem dL_law_805 : decode cL_law 805 = .ok (.if_icmp .eq 77, 3) := by decide +kernel
theorem dL_law_808 : decode cL_law 808 = .ok (.iconst 0, 1) := by decide +kernel
theorem dL_law_809 : decode cL_law 809 = .ok (.ireturn, 1) := by decide +kernel
theorem dL_law_810 : decode cL_law 810 = .ok (.aload_n 1, 1) := by decide +kernel
theorem dL_law_811 : decode cL_law 811 = .ok (.invokevirtual 129, 3) := by decide +kernel
theorem dL_law_814 : decode cL_law 814 = .ok (.aload_n 2, 1) := by decide +kernel
theorem dL_law_815 : decode cL_law 815 = .ok (.invokevirtual 132, 3) := by decide +kernel
theorem dL_law_818 : decode cL_law 818 = .ok (.if_icmp .eq 64, 3) := by decide +kernel
theorem dL_law_821 : decode cL_law 821 = .ok (.iconst 0, 1) := by decide +kernel
theorem dL_law_822 : decode cL_law 822 = .ok (.ireturn, 1) := by decide +kernel
theorem dL_law_823 : decode cL_law 823 = .ok (.aload_n 1, 1) := by decide +kernel
theorem dL_law_824 : decode cL_law 824 = .ok (.aload_n 0, 1) := by decide +kernel
theorem dL_law_825 : decode cL_law 825 = .ok (.iload_n 3, 1) := by decide +kernel
theorem dL_law_826 : decode cL_law 826 = .ok (.iconst 1, 1) := by decide +kernel
theorem dL_law_827 : decode cL_law 827 = .ok (.iadd, 1) := by decide +kernel
theorem dL_law_828 : decode cL_law 828 = .ok (.iaload, 1) := by decide +kernel
theorem dL_law_829 : decode cL_law 829 = .ok (.invokevirtual 133, 3) := by decide +kernel
theorem dL_law_832 : decode cL_law 832 = .ok (.aload_n 2, 1) := by decide +kernel
theorem dL_law_833 : decode cL_law 833 = .ok (.aload_n 0, 1) := by decide +kernel
theorem dL_law_834 : decode cL_law 834 = .ok (.iload_n 3, 1) := by decide +kernel
theorem dL_law_835 : decode cL_law 835 = .ok (.iconst 1, 1) := by decide +kernel
theorem dL_law_836 : decode cL_law 836 = .ok (.iadd, 1) := by decide +kernel
theorem dL_law_837 : decode cL_law 837 = .ok (.iaload, 1) := by decide +kernel
theorem dL_law_838 : decode cL_law 838 = .ok (.invokevirtual 136, 3) := by decide +kernel
theorem dL_law_841 : decode cL_law 841 = .ok (.if_icmp .eq 41, 3) := by decide +kernel
theorem dL_law_844 : decode cL_law 844 = .ok (.iconst 0, 1) := by decide +kernel
theorem dL_law_845 : decode cL_law 845 = .ok (.ireturn, 1) := by decide +kernel
theorem dL_law_846 : decode cL_law 846 = .ok (.aload_n 1, 1) := by decide +kernel
theorem dL_law_847 : decode cL_law 847 = .ok (.aload_n 0, 1) := by decide +kernel
theorem dL_law_848 : decode cL_law 848 = .ok (.iload_n 3, 1) := by decide +kernel
theorem dL_law_849 : decode cL_law 849 = .ok (.iconst 1, 1) := by decide +kernel
theorem dL_law_850 : decode cL_law 850 = .ok (.iadd, 1) := by decide +kernel
theorem dL_law_851 : decode cL_law 851 = .ok (.iaload, 1) := by decide +kernel
theorem dL_law_852 : decode cL_law 852 = .ok (.invokevirtual 137, 3) := by decide +kernel
theorem dL_law_855 : decode cL_law 855 = .ok (.aload_n 2, 1) := by decide +kernel
theorem dL_law_856 : decode cL_law 856 = .ok (.aload_n 0, 1) := by decide +kernel
theorem dL_law_857 : decode cL_law 857 = .ok (.iload_n 3, 1) := by decide +kernel
theorem dL_law_858 : decode cL_law 858 = .ok (.iconst 1, 1) := by decide +kernel
theorem dL_law_859 : decode cL_law 859 = .ok (.iadd, 1) := by decide +kernel
theorem dL_law_860 : decode cL_law 860 = .ok (.iaload, 1) := by decide +kernel
theorem dL_law_861 : decode cL_law 861 = .ok (.invokevirtual 140, 3) := by decide +kernel
theorem dL_law_864 : decode cL_law 864 = .ok (.if_icmp .eq 18, 3) := by decide +kernel
theorem dL_law_867 : decode cL_law 867 = .ok (.iconst 0, 1) := by decide +kernel
theorem dL_law_868 : decode cL_law 868 = .ok (.ireturn, 1) := by decide +kernel
theorem dL_law_869 : decode cL_law 869 = .ok (.aload_n 1, 1) := by decide +kernel
theorem dL_law_870 : decode cL_law 870 = .ok (.invokevirtual 141, 3) := by decide +kernel
theorem dL_law_873 : decode cL_law 873 = .ok (.aload_n 2, 1) := by decide +kernel
theorem dL_law_874 : decode cL_law 874 = .ok (.invokevirtual 144, 3) := by decide +kernel
theorem dL_law_877 : decode cL_law 877 = .ok (.if_icmp .eq 5, 3) := by decide +kernel
theorem dL_law_880 : decode cL_law 880 = .ok (.iconst 0, 1) := by decide +kernel
theorem dL_law_881 : decode cL_law 881 = .ok (.ireturn, 1) := by decide +kernel
theorem dL_law_882 : decode cL_law 882 = .ok (.iinc 3 4, 3) := by decide +kernel
theorem dL_law_885 : decode cL_law 885 = .ok (.goto (-867), 3) := by decide +kernel
theorem dL_law_888 : decode cL_law 888 = .ok (.iconst 1, 1) := by decide +kernel
theorem dL_law_889 : decode cL_law 889 = .ok (.ireturn, 1) := by decide +kernel
end
section
theorem dX0_init_0 : decode cX0_init 0 = .ok (.aload_n 0, 1) := by decide +kernel
theorem dX0_init_1 : decode cX0_init 1 = .ok (.invokespecial 3, 3) := by decide +kernel
theorem dX0_init_4 : decode cX0_init 4 = .ok (.aload_n 0, 1) := by decide +kernel
theorem dX0_init_5 : decode cX0_init 5 = .ok (.bipush 16, 2) := by decide +kernel
theorem dX0_init_7 : decode cX0_init 7 = .ok (.newarray .int, 2) := by decide +kernel
theorem dX0_init_9 : decode cX0_init 9 = .ok (.putfield 9, 3) := by decide +kernel
theorem dX0_init_12 : decode cX0_init 12 = .ok (.aload_n 0, 1) := by decide +kernel
theorem dX0_init_13 : decode cX0_init 13 = .ok (.iconst 3, 1) := by decide +kernel
theorem dX0_init_14 : decode cX0_init 14 = .ok (.newarray .int, 2) := by decide +kernel
theorem dX0_init_16 : decode cX0_init 16 = .ok (.putfield 15, 3) := by decide +kernel
theorem dX0_init_19 : decode cX0_init 19 = .ok (.aload_n 0, 1) := by decide +kernel
theorem dX0_init_20 : decode cX0_init 20 = .ok (.iconst 1, 1) := by decide +kernel
theorem dX0_init_21 : decode cX0_init 21 = .ok (.putfield 18, 3) := by decide +kernel
theorem dX0_init_24 : decode cX0_init 24 = .ok (.return_, 1) := by decide +kernel
theorem dX0_reset_0 : decode cX0_reset 0 = .ok (.aload_n 0, 1) := by decide +kernel
theorem dX0_reset_1 : decode cX0_reset 1 = .ok (.iconst 0, 1) := by decide +kernel
theorem dX0_reset_2 : decode cX0_reset 2 = .ok (.putfield 22, 3) := by decide +kernel
theorem dX0_reset_5 : decode cX0_reset 5 = .ok (.aload_n 0, 1) := by decide +kernel
theorem dX0_reset_6 : decode cX0_reset 6 = .ok (.iconst 0, 1) := by decide +kernel
theorem dX0_reset_7 : decode cX0_reset 7 = .ok (.putfield 25, 3) := by decide +kernel
theorem dX0_reset_10 : decode cX0_reset 10 = .ok (.aload_n 0, 1) := by decide +kernel
theorem dX0_reset_11 : decode cX0_reset 11 = .ok (.iconst 0, 1) := by decide +kernel
theorem dX0_reset_12 : decode cX0_reset 12 = .ok (.putfield 28, 3) := by decide +kernel
theorem dX0_reset_15 : decode cX0_reset 15 = .ok (.aload_n 0, 1) := by decide +kernel
theorem dX0_reset_16 : decode cX0_reset 16 = .ok (.iconst 0, 1) := by decide +kernel
theorem dX0_reset_17 : decode cX0_reset 17 = .ok (.putfield 31, 3) := by decide +kernel
theorem dX0_reset_20 : decode cX0_reset 20 = .ok (.aload_n 0, 1) := by decide +kernel
theorem dX0_reset_21 : decode cX0_reset 21 = .ok (.iconst 0, 1) := by decide +kernel
theorem dX0_reset_22 : decode cX0_reset 22 = .ok (.putfield 34, 3) := by decide +kernel
theorem dX0_reset_25 : decode cX0_reset 25 = .ok (.aload_n 0, 1) := by decide +kernel
theorem dX0_reset_26 : decode cX0_reset 26 = .ok (.iconst 0, 1) := by decide +kernel
theorem dX0_reset_27 : decode cX0_reset 27 = .ok (.putfield 37, 3) := by decide +kernel
theorem dX0_reset_30 : decode cX0_reset 30 = .ok (.aload_n 0, 1) := by decide +kernel
theorem dX0_reset_31 : decode cX0_reset 31 = .ok (.getfield 15, 3) := by decide +kernel
theorem dX0_reset_34 : decode cX0_reset 34 = .ok (.iconst 0, 1) := by decide +kernel
theorem dX0_reset_35 : decode cX0_reset 35 = .ok (.iconst 0, 1) := by decide +kernel
theorem dX0_reset_36 : decode cX0_reset 36 = .ok (.iastore, 1) := by decide +kernel
theorem dX0_reset_37 : decode cX0_reset 37 = .ok (.aload_n 0, 1) := by decide +kernel
theorem dX0_reset_38 : decode cX0_reset 38 = .ok (.iconst 1, 1) := by decide +kernel
theorem dX0_reset_39 : decode cX0_reset 39 = .ok (.putfield 18, 3) := by decide +kernel
theorem dX0_reset_42 : decode cX0_reset 42 = .ok (.return_, 1) := by decide +kernel
theorem dX0_copyFrom_0 : decode cX0_copyFrom 0 = .ok (.aload_n 0, 1) := by decide +kernel
theorem dX0_copyFrom_1 : decode cX0_copyFrom 1 = .ok (.aload_n 1, 1) := by decide +kernel
theorem dX0_copyFrom_2 : decode cX0_copyFrom 2 = .ok (.getfield 22, 3) := by decide +kernel
theorem dX0_copyFrom_5 : decode cX0_copyFrom 5 = .ok (.putfield 22, 3) := by decide +kernel
theorem dX0_copyFrom_8 : decode cX0_copyFrom 8 = .ok (.aload_n 0, 1) := by decide +kernel
theorem dX0_copyFrom_9 : decode cX0_copyFrom 9 = .ok (.aload_n 1, 1) := by decide +kernel
theorem dX0_copyFrom_10 : decode cX0_copyFrom 10 = .ok (.getfield 25, 3) := by decide +kernel
theorem dX0_copyFrom_13 : decode cX0_copyFrom 13 = .ok (.putfield 25, 3) := by decide +kernel
theorem dX0_copyFrom_16 : decode cX0_copyFrom 16 = .ok (.aload_n 0, 1) := by decide +kernel
theorem dX0_copyFrom_17 : decode cX0_copyFrom 17 = .ok (.aload_n 1, 1) := by decide +kernel
theorem dX0_copyFrom_18 : decode cX0_copyFrom 18 = .ok (.getfield 28, 3) := by decide +kernel
theorem dX0_copyFrom_21 : decode cX0_copyFrom 21 = .ok (.putfield 28, 3) := by decide +kernel
theorem dX0_copyFrom_24 : decode cX0_copyFrom 24 = .ok (.aload_n 0, 1) := by decide +kernel
theorem dX0_copyFrom_25 : decode cX0_copyFrom 25 = .ok (.aload_n 1, 1) := by decide +kernel
theorem dX0_copyFrom_26 : decode cX0_copyFrom 26 = .ok (.getfield 31, 3) := by decide +kernel
theorem dX0_copyFrom_29 : decode cX0_copyFrom 29 = .ok (.putfield 31, 3) := by decide +kernel
theorem dX0_copyFrom_32 : decode cX0_copyFrom 32 = .ok (.aload_n 0, 1) := by decide +kernel
theorem dX0_copyFrom_33 : decode cX0_copyFrom 33 = .ok (.aload_n 1, 1) := by decide +kernel
theorem dX0_copyFrom_34 : decode cX0_copyFrom 34 = .ok (.getfield 34, 3) := by decide +kernel
theorem dX0_copyFrom_37 : decode cX0_copyFrom 37 = .ok (.putfield 34, 3) := by decide +kernel
theorem dX0_copyFrom_40 : decode cX0_copyFrom 40 = .ok (.aload_n 1, 1) := by decide +kernel
theorem dX0_copyFrom_41 : decode cX0_copyFrom 41 = .ok (.getfield 9, 3) := by decide +kernel
theorem dX0_copyFrom_44 : decode cX0_copyFrom 44 = .ok (.iconst 0, 1) := by decide +kernel
theorem dX0_copyFrom_45 : decode cX0_copyFrom 45 = .ok (.aload_n 0, 1) := by decide +kernel
theorem dX0_copyFrom_46 : decode cX0_copyFrom 46 = .ok (.getfield 9, 3) := by decide +kernel
theorem dX0_copyFrom_49 : decode cX0_copyFrom 49 = .ok (.iconst 0, 1) := by decide +kernel
theorem dX0_copyFrom_50 : decode cX0_copyFrom 50 = .ok (.bipush 16, 2) := by decide +kernel
theorem dX0_copyFrom_52 : decode cX0_copyFrom 52 = .ok (.invokestatic 40, 3) := by decide +kernel
theorem dX0_copyFrom_55 : decode cX0_copyFrom 55 = .ok (.aload_n 0, 1) := by decide +kernel
theorem dX0_copyFrom_56 : decode cX0_copyFrom 56 = .ok (.aload_n 1, 1) := by decide +kernel
theorem dX0_copyFrom_57 : decode cX0_copyFrom 57 = .ok (.getfield 37, 3) := by decide +kernel
theorem dX0_copyFrom_60 : decode cX0_copyFrom 60 = .ok (.putfield 37, 3) := by decide +kernel
theorem dX0_copyFrom_63 : decode cX0_copyFrom 63 = .ok (.aload_n 1, 1) := by decide +kernel
theorem dX0_copyFrom_64 : decode cX0_copyFrom 64 = .ok (.getfield 15, 3) := by decide +kernel
theorem dX0_copyFrom_67 : decode cX0_copyFrom 67 = .ok (.iconst 0, 1) := by decide +kernel
theorem dX0_copyFrom_68 : decode cX0_copyFrom 68 = .ok (.aload_n 0, 1) := by decide +kernel
theorem dX0_copyFrom_69 : decode cX0_copyFrom 69 = .ok (.getfield 15, 3) := by decide +kernel
theorem dX0_copyFrom_72 : decode cX0_copyFrom 72 = .ok (.iconst 0, 1) := by decide +kernel
theorem dX0_copyFrom_73 : decode cX0_copyFrom 73 = .ok (.iconst 3, 1) := by decide +kernel
theorem dX0_copyFrom_74 : decode cX0_copyFrom 74 = .ok (.invokestatic 40, 3) := by decide +kernel
theorem dX0_copyFrom_77 : decode cX0_copyFrom 77 = .ok (.aload_n 0, 1) := by decide +kernel
theorem dX0_copyFrom_78 : decode cX0_copyFrom 78 = .ok (.aload_n 1, 1) := by decide +kernel
theorem dX0_copyFrom_79 : decode cX0_copyFrom 79 = .ok (.getfield 18, 3) := by decide +kernel
theorem dX0_copyFrom_82 : decode cX0_copyFrom 82 = .ok (.putfield 18, 3) := by decide +kernel
theorem dX0_copyFrom_85 : decode cX0_copyFrom 85 = .ok (.return_, 1) := by decide +kernel
theorem dX0_isLike_0 : decode cX0_isLike 0 = .ok (.aload_n 0, 1) := by decide +kernel
theorem dX0_isLike_1 : decode cX0_isLike 1 = .ok (.getfield 22, 3) := by decide +kernel
theorem dX0_isLike_4 : decode cX0_isLike 4 = .ok (.aload_n 1, 1) := by decide +kernel
theorem dX0_isLike_5 : decode cX0_isLike 5 = .ok (.getfield 22, 3) := by decide +kernel
theorem dX0_isLike_8 : decode cX0_isLike 8 = .ok (.if_icmp .ne 25, 3) := by decide +kernel
theorem dX0_isLike_11 : decode cX0_isLike 11 = .ok (.aload_n 0, 1) := by decide +kernel
theorem dX0_isLike_12 : decode cX0_isLike 12 = .ok (.getfield 25, 3) := by decide +kernel
theorem dX0_isLike_15 : decode cX0_isLike 15 = .ok (.aload_n 1, 1) := by decide +kernel
theorem dX0_isLike_16 : decode cX0_isLike 16 = .ok (.getfield 25, 3) := by decide +kernel
theorem dX0_isLike_19 : decode cX0_isLike 19 = .ok (.if_icmp .ne 14, 3) := by decide +kernel
theorem dX0_isLike_22 : decode cX0_isLike 22 = .ok (.aload_n 0, 1) := by decide +kernel
theorem dX0_isLike_23 : decode cX0_isLike 23 = .ok (.getfield 28, 3) := by decide +kernel
theorem dX0_isLike_26 : decode cX0_isLike 26 = .ok (.aload_n 1, 1) := by decide +kernel
theorem dX0_isLike_27 : decode cX0_isLike 27 = .ok (.getfield 28, 3) := by decide +kernel
theorem dX0_isLike_30 : decode cX0_isLike 30 = .ok (.if_icmp .eq 5, 3) := by decide +kernel
theorem dX0_isLike_33 : decode cX0_isLike 33 = .ok (.iconst 0, 1) := by decide +kernel
theorem dX0_isLike_34 : decode cX0_isLike 34 = .ok (.ireturn, 1) := by decide +kernel
theorem dX0_isLike_35 : decode cX0_isLike 35 = .ok (.aload_n 0, 1) := by decide +kernel
theorem dX0_isLike_36 : decode cX0_isLike 36 = .ok (.getfield 31, 3) := by decide +kernel
theorem dX0_isLike_39 : decode cX0_isLike 39 = .ok (.aload_n 1, 1) := by decide +kernel
theorem dX0_isLike_40 : decode cX0_isLike 40 = .ok (.getfield 31, 3) := by decide +kernel
theorem dX0_isLike_43 : decode cX0_isLike 43 = .ok (.if_icmp .ne 14, 3) := by decide +kernel
theorem dX0_isLike_46 : decode cX0_isLike 46 = .ok (.aload_n 0, 1) := by decide +kernel
theorem dX0_isLike_47 : decode cX0_isLike 47 = .ok (.getfield 34, 3) := by decide +kernel
theorem dX0_isLike_50 : decode cX0_isLike 50 = .ok (.aload_n 1, 1) := by decide +kernel
theorem dX0_isLike_51 : decode cX0_isLike 51 = .ok (.getfield 34, 3) := by decide +kernel
theorem dX0_isLike_54 : decode cX0_isLike 54 = .ok (.if_icmp .eq 5, 3) := by decide +kernel
theorem dX0_isLike_57 : decode cX0_isLike 57 = .ok (.iconst 0, 1) := by decide +kernel
theorem dX0_isLike_58 : decode cX0_isLike 58 = .ok (.ireturn, 1) := by decide +kernel
theorem dX0_isLike_59 : decode cX0_isLike 59 = .ok (.aload_n 0, 1) := by decide +kernel
theorem dX0_isLike_60 : decode cX0_isLike 60 = .ok (.getfield 37, 3) := by decide +kernel
theorem dX0_isLike_63 : decode cX0_isLike 63 = .ok (.aload_n 1, 1) := by decide +kernel
theorem dX0_isLike_64 : decode cX0_isLike 64 = .ok (.getfield 37, 3) := by decide +kernel
theorem dX0_isLike_67 : decode cX0_isLike 67 = .ok (.if_icmp .ne 14, 3) := by decide +kernel
theorem dX0_isLike_70 : decode cX0_isLike 70 = .ok (.aload_n 0, 1) := by decide +kernel
theorem dX0_isLike_71 : decode cX0_isLike 71 = .ok (.getfield 18, 3) := by decide +kernel
theorem dX0_isLike_74 : decode cX0_isLike 74 = .ok (.aload_n 1, 1) := by decide +kernel
theorem dX0_isLike_75 : decode cX0_isLike 75 = .ok (.getfield 18, 3) := by decide +kernel
theorem dX0_isLike_78 : decode cX0_isLike 78 = .ok (.if_icmp .eq 5, 3) := by decide +kernel
theorem dX0_isLike_81 : decode cX0_isLike 81 = .ok (.iconst 0, 1) := by decide +kernel
theorem dX0_isLike_82 : decode cX0_isLike 82 = .ok (.ireturn, 1) := by decide +kernel
theorem dX0_isLike_83 : decode cX0_isLike 83 = .ok (.iconst 0, 1) := by decide +kernel
theorem dX0_isLike_84 : decode cX0_isLike 84 = .ok (.istore_n 2, 1) := by decide +kernel
theorem dX0_isLike_85 : decode cX0_isLike 85 = .ok (.iload_n 2, 1) := by decide +kernel
theorem dX0_isLike_86 : decode cX0_isLike 86 = .ok (.aload_n 0, 1) := by decide +kernel
theorem dX0_isLike_87 : decode cX0_isLike 87 = .ok (.getfield 18, 3) := by decide +kernel
theorem dX0_isLike_90 : decode cX0_isLike 90 = .ok (.if_icmp .ge 26, 3) := by decide +kernel
theorem dX0_isLike_93 : decode cX0_isLike 93 = .ok (.aload_n 0, 1) := by decide +kernel
theorem dX0_isLike_94 : decode cX0_isLike 94 = .ok (.getfield 15, 3) := by decide +kernel
theorem dX0_isLike_97 : decode cX0_isLike 97 = .ok (.iload_n 2, 1) := by decide +kernel
theorem dX0_isLike_98 : decode cX0_isLike 98 = .ok (.iaload, 1) := by decide +kernel
theorem dX0_isLike_99 : decode cX0_isLike 99 = .ok (.aload_n 1, 1) := by decide +kernel
theorem dX0_isLike_100 : decode cX0_isLike 100 = .ok (.getfield 15, 3) := by decide +kernel
theorem dX0_isLike_103 : decode cX0_isLike 103 = .ok (.iload_n 2, 1) := by decide +kernel
theorem dX0_isLike_104 : decode cX0_isLike 104 = .ok (.iaload, 1) := by decide +kernel
theorem dX0_isLike_105 : decode cX0_isLike 105 = .ok (.if_icmp .eq 5, 3) := by decide +kernel
theorem dX0_isLike_108 : decode cX0_isLike 108 = .ok (.iconst 0, 1) := by decide +kernel
theorem dX0_isLike_109 : decode cX0_isLike 109 = .ok (.ireturn, 1) := by decide +kernel
theorem dX0_isLike_110 : decode cX0_isLike 110 = .ok (.iinc 2 1, 3) := by decide +kernel
theorem dX0_isLike_113 : decode cX0_isLike 113 = .ok (.goto (-28), 3) := by decide +kernel
theorem dX0_isLike_116 : decode cX0_isLike 116 = .ok (.iconst 0, 1) := by decide +kernel
theorem dX0_isLike_117 : decode cX0_isLike 117 = .ok (.istore_n 2, 1) := by decide +kernel
theorem dX0_isLike_118 : decode cX0_isLike 118 = .ok (.iload_n 2, 1) := by decide +kernel
theorem dX0_isLike_119 : decode cX0_isLike 119 = .ok (.aload_n 0, 1) := by decide +kernel
theorem dX0_isLike_120 : decode cX0_isLike 120 = .ok (.getfield 37, 3) := by decide +kernel
theorem dX0_isLike_123 : decode cX0_isLike 123 = .ok (.if_icmp .ge 26, 3) := by decide +kernel
theorem dX0_isLike_126 : decode cX0_isLike 126 = .ok (.aload_n 0, 1) := by decide +kernel
theorem dX0_isLike_127 : decode cX0_isLike 127 = .ok (.getfield 9, 3) := by decide +kernel
theorem dX0_isLike_130 : decode cX0_isLike 130 = .ok (.iload_n 2, 1) := by decide +kernel
theorem dX0_isLike_131 : decode cX0_isLike 131 = .ok (.iaload, 1) := by decide +kernel
theorem dX0_isLike_132 : decode cX0_isLike 132 = .ok (.aload_n 1, 1) := by decide +kernel
theorem dX0_isLike_133 : decode cX0_isLike 133 = .ok (.getfield 9, 3) := by decide +kernel
theorem dX0_isLike_136 : decode cX0_isLike 136 = .ok (.iload_n 2, 1) := by decide +kernel
theorem dX0_isLike_137 : decode cX0_isLike 137 = .ok (.iaload, 1) := by decide +kernel
theorem dX0_isLike_138 : decode cX0_isLike 138 = .ok (.if_icmp .eq 5, 3) := by decide +kernel
theorem dX0_isLike_141 : decode cX0_isLike 141 = .ok (.iconst 0, 1) := by decide +kernel
theorem dX0_isLike_142 : decode cX0_isLike 142 = .ok (.ireturn, 1) := by decide +kernel
theorem dX0_isLike_143 : decode cX0_isLike 143 = .ok (.iinc 2 1, 3) := by decide +kernel
theorem dX0_isLike_146 : decode cX0_isLike 146 = .ok (.goto (-28), 3) := by decide +kernel
theorem dX0_isLike_149 : decode cX0_isLike 149 = .ok (.iconst 1, 1) := by decide +kernel
theorem dX0_isLike_150 : decode cX0_isLike 150 = .ok (.ireturn, 1) := by decide +kernel
theorem dX0_cell_0 : decode cX0_cell 0 = .ok (.bipush 12, 2) := by decide +kernel
theorem dX0_cell_2 : decode cX0_cell 2 = .ok (.aload_n 0, 1) := by decide +kernel
theorem dX0_cell_3 : decode cX0_cell 3 = .ok (.getfield 25, 3) := by decide +kernel
theorem dX0_cell_6 : decode cX0_cell 6 = .ok (.imul, 1) := by decide +kernel
theorem dX0_cell_7 : decode cX0_cell 7 = .ok (.aload_n 0, 1) := by decide +kernel
theorem dX0_cell_8 : decode cX0_cell 8 = .ok (.getfield 22, 3) := by decide +kernel
theorem dX0_cell_11 : decode cX0_cell 11 = .ok (.iadd, 1) := by decide +kernel
theorem dX0_cell_12 : decode cX0_cell 12 = .ok (.ireturn, 1) := by decide +kernel
theorem dX0_stackBegin_0 : decode cX0_stackBegin 0 = .ok (.iconst 0, 1) := by decide +kernel
theorem dX0_stackBegin_1 : decode cX0_stackBegin 1 = .ok (.istore_n 2, 1) := by decide +kernel
theorem dX0_stackBegin_2 : decode cX0_stackBegin 2 = .ok (.iconst 0, 1) := by decide +kernel
theorem dX0_stackBegin_3 : decode cX0_stackBegin 3 = .ok (.istore_n 3, 1) := by decide +kernel
theorem dX0_stackBegin_4 : decode cX0_stackBegin 4 = .ok (.iload_n 3, 1) := by decide +kernel
theorem dX0_stackBegin_5 : decode cX0_stackBegin 5 = .ok (.iload_n 1, 1) := by decide +kernel
theorem dX0_stackBegin_6 : decode cX0_stackBegin 6 = .ok (.if_icmp .ge 18, 3) := by decide +kernel
theorem dX0_stackBegin_9 : decode cX0_stackBegin 9 = .ok (.iload_n 2, 1) := by decide +kernel
theorem dX0_stackBegin_10 : decode cX0_stackBegin 10 = .ok (.aload_n 0, 1) := by decide +kernel
theorem dX0_stackBegin_11 : decode cX0_stackBegin 11 = .ok (.getfield 15, 3) := by decide +kernel
theorem dX0_stackBegin_14 : decode cX0_stackBegin 14 = .ok (.iload_n 3, 1) := by decide +kernel
theorem dX0_stackBegin_15 : decode cX0_stackBegin 15 = .ok (.iaload, 1) := by decide +kernel
theorem dX0_stackBegin_16 : decode cX0_stackBegin 16 = .ok (.iadd, 1) := by decide +kernel
theorem dX0_stackBegin_17 : decode cX0_stackBegin 17 = .ok (.istore_n 2, 1) := by decide +kernel
theorem dX0_stackBegin_18 : decode cX0_stackBegin 18 = .ok (.iinc 3 1, 3) := by decide +kernel
theorem dX0_stackBegin_21 : decode cX0_stackBegin 21 = .ok (.goto (-17), 3) := by decide +kernel
theorem dX0_stackBegin_24 : decode cX0_stackBegin 24 = .ok (.iload_n 2, 1) := by decide +kernel
theorem dX0_stackBegin_25 : decode cX0_stackBegin 25 = .ok (.ireturn, 1) := by decide +kernel
theorem dX0_step_0 : decode cX0_step 0 = .ok (.aload_n 0, 1) := by decide +kernel
theorem dX0_step_1 : decode cX0_step 1 = .ok (.getfield 28, 3) := by decide +kernel
theorem dX0_step_4 : decode cX0_step 4 = .ok (.tableswitch 104 0 2 #[28, 54, 79], 28) := by decide +kernel
theorem dX0_step_32 : decode cX0_step 32 = .ok (.aload_n 0, 1) := by decide +kernel
theorem dX0_step_33 : decode cX0_step 33 = .ok (.aload_n 0, 1) := by decide +kernel
theorem dX0_step_34 : decode cX0_step 34 = .ok (.getfield 22, 3) := by decide +kernel
theorem dX0_step_37 : decode cX0_step 37 = .ok (.bipush 11, 2) := by decide +kernel
theorem dX0_step_39 : decode cX0_step 39 = .ok (.if_icmp .ge 12, 3) := by decide +kernel
theorem dX0_step_42 : decode cX0_step 42 = .ok (.aload_n 0, 1) := by decide +kernel
theorem dX0_step_43 : decode cX0_step 43 = .ok (.getfield 22, 3) := by decide +kernel
theorem dX0_step_46 : decode cX0_step 46 = .ok (.iconst 1, 1) := by decide +kernel
theorem dX0_step_47 : decode cX0_step 47 = .ok (.iadd, 1) := by decide +kernel
theorem dX0_step_48 : decode cX0_step 48 = .ok (.goto 4, 3) := by decide +kernel
theorem dX0_step_51 : decode cX0_step 51 = .ok (.iconst 0, 1) := by decide +kernel
theorem dX0_step_52 : decode cX0_step 52 = .ok (.putfield 22, 3) := by decide +kernel
theorem dX0_step_55 : decode cX0_step 55 = .ok (.goto 74, 3) := by decide +kernel
theorem dX0_step_58 : decode cX0_step 58 = .ok (.aload_n 0, 1) := by decide +kernel
theorem dX0_step_59 : decode cX0_step 59 = .ok (.aload_n 0, 1) := by decide +kernel
theorem dX0_step_60 : decode cX0_step 60 = .ok (.getfield 25, 3) := by decide +kernel
theorem dX0_step_63 : decode cX0_step 63 = .ok (.iconst 5, 1) := by decide +kernel
theorem dX0_step_64 : decode cX0_step 64 = .ok (.if_icmp .ge 12, 3) := by decide +kernel
theorem dX0_step_67 : decode cX0_step 67 = .ok (.aload_n 0, 1) := by decide +kernel
theorem dX0_step_68 : decode cX0_step 68 = .ok (.getfield 25, 3) := by decide +kernel
theorem dX0_step_71 : decode cX0_step 71 = .ok (.iconst 1, 1) := by decide +kernel
theorem dX0_step_72 : decode cX0_step 72 = .ok (.iadd, 1) := by decide +kernel
theorem dX0_step_73 : decode cX0_step 73 = .ok (.goto 4, 3) := by decide +kernel
theorem dX0_step_76 : decode cX0_step 76 = .ok (.iconst 0, 1) := by decide +kernel
theorem dX0_step_77 : decode cX0_step 77 = .ok (.putfield 25, 3) := by decide +kernel
theorem dX0_step_80 : decode cX0_step 80 = .ok (.goto 49, 3) := by decide +kernel
theorem dX0_step_83 : decode cX0_step 83 = .ok (.aload_n 0, 1) := by decide +kernel
theorem dX0_step_84 : decode cX0_step 84 = .ok (.aload_n 0, 1) := by decide +kernel
theorem dX0_step_85 : decode cX0_step 85 = .ok (.getfield 22, 3) := by decide +kernel
theorem dX0_step_88 : decode cX0_step 88 = .ok (.ifCond .le 12, 3) := by decide +kernel
theorem dX0_step_91 : decode cX0_step 91 = .ok (.aload_n 0, 1) := by decide +kernel
theorem dX0_step_92 : decode cX0_step 92 = .ok (.getfield 22, 3) := by decide +kernel
theorem dX0_step_95 : decode cX0_step 95 = .ok (.iconst 1, 1) := by decide +kernel
theorem dX0_step_96 : decode cX0_step 96 = .ok (.isub, 1) := by decide +kernel
theorem dX0_step_97 : decode cX0_step 97 = .ok (.goto 5, 3) := by decide +kernel
theorem dX0_step_100 : decode cX0_step 100 = .ok (.bipush 11, 2) := by decide +kernel
theorem dX0_step_102 : decode cX0_step 102 = .ok (.putfield 22, 3) := by decide +kernel
theorem dX0_step_105 : decode cX0_step 105 = .ok (.goto 24, 3) := by decide +kernel
theorem dX0_step_108 : decode cX0_step 108 = .ok (.aload_n 0, 1) := by decide +kernel
theorem dX0_step_109 : decode cX0_step 109 = .ok (.aload_n 0, 1) := by decide +kernel
theorem dX0_step_110 : decode cX0_step 110 = .ok (.getfield 25, 3) := by decide +kernel
theorem dX0_step_113 : decode cX0_step 113 = .ok (.ifCond .le 12, 3) := by decide +kernel
theorem dX0_step_116 : decode cX0_step 116 = .ok (.aload_n 0, 1) := by decide +kernel
theorem dX0_step_117 : decode cX0_step 117 = .ok (.getfield 25, 3) := by decide +kernel
theorem dX0_step_120 : decode cX0_step 120 = .ok (.iconst 1, 1) := by decide +kernel
theorem dX0_step_121 : decode cX0_step 121 = .ok (.isub, 1) := by decide +kernel
theorem dX0_step_122 : decode cX0_step 122 = .ok (.goto 4, 3) := by decide +kernel
theorem dX0_step_125 : decode cX0_step 125 = .ok (.iconst 5, 1) := by decide +kernel
theorem dX0_step_126 : decode cX0_step 126 = .ok (.putfield 25, 3) := by decide +kernel
theorem dX0_step_129 : decode cX0_step 129 = .ok (.return_, 1) := by decide +kernel
theorem dX0_turn_0 : decode cX0_turn 0 = .ok (.aload_n 0, 1) := by decide +kernel
theorem dX0_turn_1 : decode cX0_turn 1 = .ok (.aload_n 0, 1) := by decide +kernel
theorem dX0_turn_2 : decode cX0_turn 2 = .ok (.getfield 28, 3) := by decide +kernel
theorem dX0_turn_5 : decode cX0_turn 5 = .ok (.iload_n 1, 1) := by decide +kernel
theorem dX0_turn_6 : decode cX0_turn 6 = .ok (.iadd, 1) := by decide +kernel
theorem dX0_turn_7 : decode cX0_turn 7 = .ok (.iconst 3, 1) := by decide +kernel
theorem dX0_turn_8 : decode cX0_turn 8 = .ok (.iand, 1) := by decide +kernel
theorem dX0_turn_9 : decode cX0_turn 9 = .ok (.putfield 28, 3) := by decide +kernel
theorem dX0_turn_12 : decode cX0_turn 12 = .ok (.return_, 1) := by decide +kernel
theorem dX0_pop_0 : decode cX0_pop 0 = .ok (.aload_n 0, 1) := by decide +kernel
theorem dX0_pop_1 : decode cX0_pop 1 = .ok (.getfield 18, 3) := by decide +kernel
theorem dX0_pop_4 : decode cX0_pop 4 = .ok (.iconst 1, 1) := by decide +kernel
theorem dX0_pop_5 : decode cX0_pop 5 = .ok (.isub, 1) := by decide +kernel
theorem dX0_pop_6 : decode cX0_pop 6 = .ok (.istore_n 1, 1) := by decide +kernel
theorem dX0_pop_7 : decode cX0_pop 7 = .ok (.aload_n 0, 1) := by decide +kernel
theorem dX0_pop_8 : decode cX0_pop 8 = .ok (.getfield 15, 3) := by decide +kernel
theorem dX0_pop_11 : decode cX0_pop 11 = .ok (.iload_n 1, 1) := by decide +kernel
theorem dX0_pop_12 : decode cX0_pop 12 = .ok (.iaload, 1) := by decide +kernel
theorem dX0_pop_13 : decode cX0_pop 13 = .ok (.ifCond .gt 5, 3) := by decide +kernel
theorem dX0_pop_16 : decode cX0_pop 16 = .ok (.iconst 0, 1) := by decide +kernel
theorem dX0_pop_17 : decode cX0_pop 17 = .ok (.ireturn, 1) := by decide +kernel
theorem dX0_pop_18 : decode cX0_pop 18 = .ok (.aload_n 0, 1) := by decide +kernel
theorem dX0_pop_19 : decode cX0_pop 19 = .ok (.getfield 15, 3) := by decide +kernel
theorem dX0_pop_22 : decode cX0_pop 22 = .ok (.iload_n 1, 1) := by decide +kernel
theorem dX0_pop_23 : decode cX0_pop 23 = .ok (.dup2, 1) := by decide +kernel
theorem dX0_pop_24 : decode cX0_pop 24 = .ok (.iaload, 1) := by decide +kernel
theorem dX0_pop_25 : decode cX0_pop 25 = .ok (.iconst 1, 1) := by decide +kernel
theorem dX0_pop_26 : decode cX0_pop 26 = .ok (.isub, 1) := by decide +kernel
theorem dX0_pop_27 : decode cX0_pop 27 = .ok (.iastore, 1) := by decide +kernel
theorem dX0_pop_28 : decode cX0_pop 28 = .ok (.aload_n 0, 1) := by decide +kernel
theorem dX0_pop_29 : decode cX0_pop 29 = .ok (.dup, 1) := by decide +kernel
theorem dX0_pop_30 : decode cX0_pop 30 = .ok (.getfield 37, 3) := by decide +kernel
theorem dX0_pop_33 : decode cX0_pop 33 = .ok (.iconst 1, 1) := by decide +kernel
theorem dX0_pop_34 : decode cX0_pop 34 = .ok (.isub, 1) := by decide +kernel
theorem dX0_pop_35 : decode cX0_pop 35 = .ok (.putfield 37, 3) := by decide +kernel
theorem dX0_pop_38 : decode cX0_pop 38 = .ok (.aload_n 0, 1) := by decide +kernel
theorem dX0_pop_39 : decode cX0_pop 39 = .ok (.getfield 9, 3) := by decide +kernel
theorem dX0_pop_42 : decode cX0_pop 42 = .ok (.aload_n 0, 1) := by decide +kernel
theorem dX0_pop_43 : decode cX0_pop 43 = .ok (.getfield 37, 3) := by decide +kernel
theorem dX0_pop_46 : decode cX0_pop 46 = .ok (.iaload, 1) := by decide +kernel
theorem dX0_pop_47 : decode cX0_pop 47 = .ok (.ireturn, 1) := by decide +kernel
theorem dX0_push_0 : decode cX0_push 0 = .ok (.aload_n 0, 1) := by decide +kernel
theorem dX0_push_1 : decode cX0_push 1 = .ok (.getfield 37, 3) := by decide +kernel
theorem dX0_push_4 : decode cX0_push 4 = .ok (.bipush 16, 2) := by decide +kernel
theorem dX0_push_6 : decode cX0_push 6 = .ok (.if_icmp .lt 9, 3) := by decide +kernel
theorem dX0_push_9 : decode cX0_push 9 = .ok (.aload_n 0, 1) := by decide +kernel
theorem dX0_push_10 : decode cX0_push 10 = .ok (.iconst 2, 1) := by decide +kernel
theorem dX0_push_11 : decode cX0_push 11 = .ok (.putfield 31, 3) := by decide +kernel
theorem dX0_push_14 : decode cX0_push 14 = .ok (.return_, 1) := by decide +kernel
theorem dX0_push_15 : decode cX0_push 15 = .ok (.aload_n 0, 1) := by decide +kernel
theorem dX0_push_16 : decode cX0_push 16 = .ok (.getfield 9, 3) := by decide +kernel
theorem dX0_push_19 : decode cX0_push 19 = .ok (.aload_n 0, 1) := by decide +kernel
theorem dX0_push_20 : decode cX0_push 20 = .ok (.getfield 37, 3) := by decide +kernel
theorem dX0_push_23 : decode cX0_push 23 = .ok (.iload_n 1, 1) := by decide +kernel
theorem dX0_push_24 : decode cX0_push 24 = .ok (.iastore, 1) := by decide +kernel
theorem dX0_push_25 : decode cX0_push 25 = .ok (.aload_n 0, 1) := by decide +kernel
theorem dX0_push_26 : decode cX0_push 26 = .ok (.dup, 1) := by decide +kernel
theorem dX0_push_27 : decode cX0_push 27 = .ok (.getfield 37, 3) := by decide +kernel
theorem dX0_push_30 : decode cX0_push 30 = .ok (.iconst 1, 1) := by decide +kernel
theorem dX0_push_31 : decode cX0_push 31 = .ok (.iadd, 1) := by decide +kernel
theorem dX0_push_32 : decode cX0_push 32 = .ok (.putfield 37, 3) := by decide +kernel
theorem dX0_push_35 : decode cX0_push 35 = .ok (.aload_n 0, 1) := by decide +kernel
theorem dX0_push_36 : decode cX0_push 36 = .ok (.getfield 15, 3) := by decide +kernel
theorem dX0_push_39 : decode cX0_push 39 = .ok (.aload_n 0, 1) := by decide +kernel
theorem dX0_push_40 : decode cX0_push 40 = .ok (.getfield 18, 3) := by decide +kernel
theorem dX0_push_43 : decode cX0_push 43 = .ok (.iconst 1, 1) := by decide +kernel
theorem dX0_push_44 : decode cX0_push 44 = .ok (.isub, 1) := by decide +kernel
theorem dX0_push_45 : decode cX0_push 45 = .ok (.dup2, 1) := by decide +kernel
theorem dX0_push_46 : decode cX0_push 46 = .ok (.iaload, 1) := by decide +kernel
theorem dX0_push_47 : decode cX0_push 47 = .ok (.iconst 1, 1) := by decide +kernel
theorem dX0_push_48 : decode cX0_push 48 = .ok (.iadd, 1) := by decide +kernel
theorem dX0_push_49 : decode cX0_push 49 = .ok (.iastore, 1) := by decide +kernel
theorem dX0_push_50 : decode cX0_push 50 = .ok (.return_, 1) := by decide +kernel
theorem dX0_perform_0 : decode cX0_perform 0 = .ok (.iload_n 1, 1) := by decide +kernel
theorem dX0_perform_1 : decode cX0_perform 1 = .ok (.bipush 48, 2) := by decide +kernel
theorem dX0_perform_3 : decode cX0_perform 3 = .ok (.if_icmp .lt 18, 3) := by decide +kernel
theorem dX0_perform_6 : decode cX0_perform 6 = .ok (.iload_n 1, 1) := by decide +kernel
theorem dX0_perform_7 : decode cX0_perform 7 = .ok (.bipush 57, 2) := by decide +kernel
theorem dX0_perform_9 : decode cX0_perform 9 = .ok (.if_icmp .gt 12, 3) := by decide +kernel
theorem dX0_perform_12 : decode cX0_perform 12 = .ok (.aload_n 0, 1) := by decide +kernel
theorem dX0_perform_13 : decode cX0_perform 13 = .ok (.iload_n 1, 1) := by decide +kernel
theorem dX0_perform_14 : decode cX0_perform 14 = .ok (.bipush 48, 2) := by decide +kernel
theorem dX0_perform_16 : decode cX0_perform 16 = .ok (.isub, 1) := by decide +kernel
theorem dX0_perform_17 : decode cX0_perform 17 = .ok (.invokevirtual 46, 3) := by decide +kernel
theorem dX0_perform_20 : decode cX0_perform 20 = .ok (.return_, 1) := by decide +kernel
theorem dX0_perform_21 : decode cX0_perform 21 = .ok (.iload_n 1, 1) := by decide +kernel
theorem dX0_perform_22 : decode cX0_perform 22 = .ok (.lookupswitch 266 #[(33, 145), (36, 212), (37, 122), (42, 122), (43, 122), (45, 122), (47, 122), (58, 164), (64, 258), (92, 185), (96, 122), (119, 238), (123, 220), (125, 231)], 122) := by decide +kernel
theorem dX0_perform_144 : decode cX0_perform 144 = .ok (.aload_n 0, 1) := by decide +kernel
theorem dX0_perform_145 : decode cX0_perform 145 = .ok (.invokevirtual 50, 3) := by decide +kernel
theorem dX0_perform_148 : decode cX0_perform 148 = .ok (.istore_n 2, 1) := by decide +kernel
theorem dX0_perform_149 : decode cX0_perform 149 = .ok (.aload_n 0, 1) := by decide +kernel
theorem dX0_perform_150 : decode cX0_perform 150 = .ok (.invokevirtual 50, 3) := by decide +kernel
theorem dX0_perform_153 : decode cX0_perform 153 = .ok (.istore_n 3, 1) := by decide +kernel
theorem dX0_perform_154 : decode cX0_perform 154 = .ok (.aload_n 0, 1) := by decide +kernel
theorem dX0_perform_155 : decode cX0_perform 155 = .ok (.iload_n 1, 1) := by decide +kernel
theorem dX0_perform_156 : decode cX0_perform 156 = .ok (.iload_n 3, 1) := by decide +kernel
theorem dX0_perform_157 : decode cX0_perform 157 = .ok (.iload_n 2, 1) := by decide +kernel
theorem dX0_perform_158 : decode cX0_perform 158 = .ok (.invokestatic 54, 3) := by decide +kernel
theorem dX0_perform_161 : decode cX0_perform 161 = .ok (.invokevirtual 46, 3) := by decide +kernel
theorem dX0_perform_164 : decode cX0_perform 164 = .ok (.goto 129, 3) := by decide +kernel
theorem dX0_perform_167 : decode cX0_perform 167 = .ok (.aload_n 0, 1) := by decide +kernel
theorem dX0_perform_168 : decode cX0_perform 168 = .ok (.aload_n 0, 1) := by decide +kernel
theorem dX0_perform_169 : decode cX0_perform 169 = .ok (.invokevirtual 50, 3) := by decide +kernel
theorem dX0_perform_172 : decode cX0_perform 172 = .ok (.ifCond .ne 7, 3) := by decide +kernel
theorem dX0_perform_175 : decode cX0_perform 175 = .ok (.iconst 1, 1) := by decide +kernel
theorem dX0_perform_176 : decode cX0_perform 176 = .ok (.goto 4, 3) := by decide +kernel
theorem dX0_perform_179 : decode cX0_perform 179 = .ok (.iconst 0, 1) := by decide +kernel
theorem dX0_perform_180 : decode cX0_perform 180 = .ok (.invokevirtual 46, 3) := by decide +kernel
theorem dX0_perform_183 : decode cX0_perform 183 = .ok (.goto 110, 3) := by decide +kernel
theorem dX0_perform_186 : decode cX0_perform 186 = .ok (.aload_n 0, 1) := by decide +kernel
theorem dX0_perform_187 : decode cX0_perform 187 = .ok (.invokevirtual 50, 3) := by decide +kernel
theorem dX0_perform_190 : decode cX0_perform 190 = .ok (.istore 4, 2) := by decide +kernel
theorem dX0_perform_192 : decode cX0_perform 192 = .ok (.aload_n 0, 1) := by decide +kernel
theorem dX0_perform_193 : decode cX0_perform 193 = .ok (.iload 4, 2) := by decide +kernel
theorem dX0_perform_195 : decode cX0_perform 195 = .ok (.invokevirtual 46, 3) := by decide +kernel
theorem dX0_perform_198 : decode cX0_perform 198 = .ok (.aload_n 0, 1) := by decide +kernel
theorem dX0_perform_199 : decode cX0_perform 199 = .ok (.iload 4, 2) := by decide +kernel
theorem dX0_perform_201 : decode cX0_perform 201 = .ok (.invokevirtual 46, 3) := by decide +kernel
theorem dX0_perform_204 : decode cX0_perform 204 = .ok (.goto 89, 3) := by decide +kernel
theorem dX0_perform_207 : decode cX0_perform 207 = .ok (.aload_n 0, 1) := by decide +kernel
theorem dX0_perform_208 : decode cX0_perform 208 = .ok (.invokevirtual 50, 3) := by decide +kernel
theorem dX0_perform_211 : decode cX0_perform 211 = .ok (.istore 5, 2) := by decide +kernel
theorem dX0_perform_213 : decode cX0_perform 213 = .ok (.aload_n 0, 1) := by decide +kernel
theorem dX0_perform_214 : decode cX0_perform 214 = .ok (.invokevirtual 50, 3) := by decide +kernel
theorem dX0_perform_217 : decode cX0_perform 217 = .ok (.istore 6, 2) := by decide +kernel
theorem dX0_perform_219 : decode cX0_perform 219 = .ok (.aload_n 0, 1) := by decide +kernel
theorem dX0_perform_220 : decode cX0_perform 220 = .ok (.iload 5, 2) := by decide +kernel
theorem dX0_perform_222 : decode cX0_perform 222 = .ok (.invokevirtual 46, 3) := by decide +kernel
theorem dX0_perform_225 : decode cX0_perform 225 = .ok (.aload_n 0, 1) := by decide +kernel
theorem dX0_perform_226 : decode cX0_perform 226 = .ok (.iload 6, 2) := by decide +kernel
theorem dX0_perform_228 : decode cX0_perform 228 = .ok (.invokevirtual 46, 3) := by decide +kernel
theorem dX0_perform_231 : decode cX0_perform 231 = .ok (.goto 62, 3) := by decide +kernel
theorem dX0_perform_234 : decode cX0_perform 234 = .ok (.aload_n 0, 1) := by decide +kernel
theorem dX0_perform_235 : decode cX0_perform 235 = .ok (.invokevirtual 50, 3) := by decide +kernel
theorem dX0_perform_238 : decode cX0_perform 238 = .ok (.pop, 1) := by decide +kernel
theorem dX0_perform_239 : decode cX0_perform 239 = .ok (.goto 54, 3) := by decide +kernel
theorem dX0_perform_242 : decode cX0_perform 242 = .ok (.aload_n 0, 1) := by decide +kernel
theorem dX0_perform_243 : decode cX0_perform 243 = .ok (.aload_n 0, 1) := by decide +kernel
theorem dX0_perform_244 : decode cX0_perform 244 = .ok (.invokevirtual 50, 3) := by decide +kernel
theorem dX0_perform_247 : decode cX0_perform 247 = .ok (.invokevirtual 58, 3) := by decide +kernel
theorem dX0_perform_250 : decode cX0_perform 250 = .ok (.goto 43, 3) := by decide +kernel
theorem dX0_perform_253 : decode cX0_perform 253 = .ok (.aload_n 0, 1) := by decide +kernel
theorem dX0_perform_254 : decode cX0_perform 254 = .ok (.invokevirtual 61, 3) := by decide +kernel
theorem dX0_perform_257 : decode cX0_perform 257 = .ok (.goto 36, 3) := by decide +kernel
theorem dX0_perform_260 : decode cX0_perform 260 = .ok (.aload_n 0, 1) := by decide +kernel
theorem dX0_perform_261 : decode cX0_perform 261 = .ok (.iconst 0, 1) := by decide +kernel
theorem dX0_perform_262 : decode cX0_perform 262 = .ok (.bipush 9, 2) := by decide +kernel
theorem dX0_perform_264 : decode cX0_perform 264 = .ok (.aload_n 0, 1) := by decide +kernel
theorem dX0_perform_265 : decode cX0_perform 265 = .ok (.invokevirtual 50, 3) := by decide +kernel
theorem dX0_perform_268 : decode cX0_perform 268 = .ok (.invokestatic 64, 3) := by decide +kernel
theorem dX0_perform_271 : decode cX0_perform 271 = .ok (.invokestatic 70, 3) := by decide +kernel
theorem dX0_perform_274 : decode cX0_perform 274 = .ok (.putfield 34, 3) := by decide +kernel
theorem dX0_perform_277 : decode cX0_perform 277 = .ok (.goto 16, 3) := by decide +kernel
theorem dX0_perform_280 : decode cX0_perform 280 = .ok (.aload_n 0, 1) := by decide +kernel
theorem dX0_perform_281 : decode cX0_perform 281 = .ok (.iconst 1, 1) := by decide +kernel
theorem dX0_perform_282 : decode cX0_perform 282 = .ok (.putfield 31, 3) := by decide +kernel
theorem dX0_perform_285 : decode cX0_perform 285 = .ok (.goto 8, 3) := by decide +kernel
theorem dX0_perform_288 : decode cX0_perform 288 = .ok (.aload_n 0, 1) := by decide +kernel
theorem dX0_perform_289 : decode cX0_perform 289 = .ok (.iload_n 1, 1) := by decide +kernel
theorem dX0_perform_290 : decode cX0_perform 290 = .ok (.invokevirtual 73, 3) := by decide +kernel
theorem dX0_perform_293 : decode cX0_perform 293 = .ok (.return_, 1) := by decide +kernel
theorem dX0_combine_0 : decode cX0_combine 0 = .ok (.iload_n 0, 1) := by decide +kernel
theorem dX0_combine_1 : decode cX0_combine 1 = .ok (.tableswitch 95 37 47 #[83, 95, 95, 95, 95, 67, 59, 95, 63, 95, 71], 59) := by decide +kernel
theorem dX0_combine_60 : decode cX0_combine 60 = .ok (.iload_n 1, 1) := by decide +kernel
theorem dX0_combine_61 : decode cX0_combine 61 = .ok (.iload_n 2, 1) := by decide +kernel
theorem dX0_combine_62 : decode cX0_combine 62 = .ok (.iadd, 1) := by decide +kernel
theorem dX0_combine_63 : decode cX0_combine 63 = .ok (.ireturn, 1) := by decide +kernel
theorem dX0_combine_64 : decode cX0_combine 64 = .ok (.iload_n 1, 1) := by decide +kernel
theorem dX0_combine_65 : decode cX0_combine 65 = .ok (.iload_n 2, 1) := by decide +kernel
theorem dX0_combine_66 : decode cX0_combine 66 = .ok (.isub, 1) := by decide +kernel
theorem dX0_combine_67 : decode cX0_combine 67 = .ok (.ireturn, 1) := by decide +kernel
theorem dX0_combine_68 : decode cX0_combine 68 = .ok (.iload_n 1, 1) := by decide +kernel
theorem dX0_combine_69 : decode cX0_combine 69 = .ok (.iload_n 2, 1) := by decide +kernel
theorem dX0_combine_70 : decode cX0_combine 70 = .ok (.imul, 1) := by decide +kernel
theorem dX0_combine_71 : decode cX0_combine 71 = .ok (.ireturn, 1) := by decide +kernel
theorem dX0_combine_72 : decode cX0_combine 72 = .ok (.iload_n 2, 1) := by decide +kernel
theorem dX0_combine_73 : decode cX0_combine 73 = .ok (.ifCond .ne 7, 3) := by decide +kernel
theorem dX0_combine_76 : decode cX0_combine 76 = .ok (.iconst 0, 1) := by decide +kernel
theorem dX0_combine_77 : decode cX0_combine 77 = .ok (.goto 6, 3) := by decide +kernel
theorem dX0_combine_80 : decode cX0_combine 80 = .ok (.iload_n 1, 1) := by decide +kernel
theorem dX0_combine_81 : decode cX0_combine 81 = .ok (.iload_n 2, 1) := by decide +kernel
theorem dX0_combine_82 : decode cX0_combine 82 = .ok (.idiv, 1) := by decide +kernel
theorem dX0_combine_83 : decode cX0_combine 83 = .ok (.ireturn, 1) := by decide +kernel
theorem dX0_combine_84 : decode cX0_combine 84 = .ok (.iload_n 2, 1) := by decide +kernel
theorem dX0_combine_85 : decode cX0_combine 85 = .ok (.ifCond .ne 7, 3) := by decide +kernel
theorem dX0_combine_88 : decode cX0_combine 88 = .ok (.iconst 0, 1) := by decide +kernel
theorem dX0_combine_89 : decode cX0_combine 89 = .ok (.goto 6, 3) := by decide +kernel
theorem dX0_combine_92 : decode cX0_combine 92 = .ok (.iload_n 1, 1) := by decide +kernel
theorem dX0_combine_93 : decode cX0_combine 93 = .ok (.iload_n 2, 1) := by decide +kernel
theorem dX0_combine_94 : decode cX0_combine 94 = .ok (.irem, 1) := by decide +kernel
theorem dX0_combine_95 : decode cX0_combine 95 = .ok (.ireturn, 1) := by decide +kernel
theorem dX0_combine_96 : decode cX0_combine 96 = .ok (.iload_n 1, 1) := by decide +kernel
theorem dX0_combine_97 : decode cX0_combine 97 = .ok (.iload_n 2, 1) := by decide +kernel
theorem dX0_combine_98 : decode cX0_combine 98 = .ok (.if_icmp .le 7, 3) := by decide +kernel
theorem dX0_combine_101 : decode cX0_combine 101 = .ok (.iconst 1, 1) := by decide +kernel
theorem dX0_combine_102 : decode cX0_combine 102 = .ok (.goto 4, 3) := by decide +kernel
theorem dX0_combine_105 : decode cX0_combine 105 = .ok (.iconst 0, 1) := by decide +kernel
theorem dX0_combine_106 : decode cX0_combine 106 = .ok (.ireturn, 1) := by decide +kernel
theorem dX0_steer_0 : decode cX0_steer 0 = .ok (.iload_n 1, 1) := by decide +kernel
theorem dX0_steer_1 : decode cX0_steer 1 = .ok (.lookupswitch 192 #[(35, 185), (60, 107), (62, 91), (91, 161), (93, 169), (94, 115), (95, 123), (114, 177), (118, 99), (124, 142)], 91) := by decide +kernel
theorem dX0_steer_92 : decode cX0_steer 92 = .ok (.aload_n 0, 1) := by decide +kernel
theorem dX0_steer_93 : decode cX0_steer 93 = .ok (.iconst 0, 1) := by decide +kernel
theorem dX0_steer_94 : decode cX0_steer 94 = .ok (.putfield 28, 3) := by decide +kernel
theorem dX0_steer_97 : decode cX0_steer 97 = .ok (.goto 96, 3) := by decide +kernel
theorem dX0_steer_100 : decode cX0_steer 100 = .ok (.aload_n 0, 1) := by decide +kernel
theorem dX0_steer_101 : decode cX0_steer 101 = .ok (.iconst 1, 1) := by decide +kernel
theorem dX0_steer_102 : decode cX0_steer 102 = .ok (.putfield 28, 3) := by decide +kernel
theorem dX0_steer_105 : decode cX0_steer 105 = .ok (.goto 88, 3) := by decide +kernel
theorem dX0_steer_108 : decode cX0_steer 108 = .ok (.aload_n 0, 1) := by decide +kernel
theorem dX0_steer_109 : decode cX0_steer 109 = .ok (.iconst 2, 1) := by decide +kernel
theorem dX0_steer_110 : decode cX0_steer 110 = .ok (.putfield 28, 3) := by decide +kernel
theorem dX0_steer_113 : decode cX0_steer 113 = .ok (.goto 80, 3) := by decide +kernel
theorem dX0_steer_116 : decode cX0_steer 116 = .ok (.aload_n 0, 1) := by decide +kernel
theorem dX0_steer_117 : decode cX0_steer 117 = .ok (.iconst 3, 1) := by decide +kernel
theorem dX0_steer_118 : decode cX0_steer 118 = .ok (.putfield 28, 3) := by decide +kernel
theorem dX0_steer_121 : decode cX0_steer 121 = .ok (.goto 72, 3) := by decide +kernel
theorem dX0_steer_124 : decode cX0_steer 124 = .ok (.aload_n 0, 1) := by decide +kernel
theorem dX0_steer_125 : decode cX0_steer 125 = .ok (.aload_n 0, 1) := by decide +kernel
theorem dX0_steer_126 : decode cX0_steer 126 = .ok (.invokevirtual 50, 3) := by decide +kernel
theorem dX0_steer_129 : decode cX0_steer 129 = .ok (.ifCond .ne 7, 3) := by decide +kernel
theorem dX0_steer_132 : decode cX0_steer 132 = .ok (.iconst 0, 1) := by decide +kernel
theorem dX0_steer_133 : decode cX0_steer 133 = .ok (.goto 4, 3) := by decide +kernel
theorem dX0_steer_136 : decode cX0_steer 136 = .ok (.iconst 2, 1) := by decide +kernel
theorem dX0_steer_137 : decode cX0_steer 137 = .ok (.putfield 28, 3) := by decide +kernel
theorem dX0_steer_140 : decode cX0_steer 140 = .ok (.goto 53, 3) := by decide +kernel
theorem dX0_steer_143 : decode cX0_steer 143 = .ok (.aload_n 0, 1) := by decide +kernel
theorem dX0_steer_144 : decode cX0_steer 144 = .ok (.aload_n 0, 1) := by decide +kernel
theorem dX0_steer_145 : decode cX0_steer 145 = .ok (.invokevirtual 50, 3) := by decide +kernel
theorem dX0_steer_148 : decode cX0_steer 148 = .ok (.ifCond .ne 7, 3) := by decide +kernel
theorem dX0_steer_151 : decode cX0_steer 151 = .ok (.iconst 1, 1) := by decide +kernel
theorem dX0_steer_152 : decode cX0_steer 152 = .ok (.goto 4, 3) := by decide +kernel
theorem dX0_steer_155 : decode cX0_steer 155 = .ok (.iconst 3, 1) := by decide +kernel
theorem dX0_steer_156 : decode cX0_steer 156 = .ok (.putfield 28, 3) := by decide +kernel
theorem dX0_steer_159 : decode cX0_steer 159 = .ok (.goto 34, 3) := by decide +kernel
theorem dX0_steer_162 : decode cX0_steer 162 = .ok (.aload_n 0, 1) := by decide +kernel
theorem dX0_steer_163 : decode cX0_steer 163 = .ok (.iconst 3, 1) := by decide +kernel
theorem dX0_steer_164 : decode cX0_steer 164 = .ok (.invokevirtual 76, 3) := by decide +kernel
theorem dX0_steer_167 : decode cX0_steer 167 = .ok (.goto 26, 3) := by decide +kernel
theorem dX0_steer_170 : decode cX0_steer 170 = .ok (.aload_n 0, 1) := by decide +kernel
theorem dX0_steer_171 : decode cX0_steer 171 = .ok (.iconst 1, 1) := by decide +kernel
theorem dX0_steer_172 : decode cX0_steer 172 = .ok (.invokevirtual 76, 3) := by decide +kernel
theorem dX0_steer_175 : decode cX0_steer 175 = .ok (.goto 18, 3) := by decide +kernel
theorem dX0_steer_178 : decode cX0_steer 178 = .ok (.aload_n 0, 1) := by decide +kernel
theorem dX0_steer_179 : decode cX0_steer 179 = .ok (.iconst 2, 1) := by decide +kernel
theorem dX0_steer_180 : decode cX0_steer 180 = .ok (.invokevirtual 76, 3) := by decide +kernel
theorem dX0_steer_183 : decode cX0_steer 183 = .ok (.goto 10, 3) := by decide +kernel
theorem dX0_steer_186 : decode cX0_steer 186 = .ok (.aload_n 0, 1) := by decide +kernel
theorem dX0_steer_187 : decode cX0_steer 187 = .ok (.invokevirtual 79, 3) := by decide +kernel
theorem dX0_steer_190 : decode cX0_steer 190 = .ok (.goto 3, 3) := by decide +kernel
theorem dX0_steer_193 : decode cX0_steer 193 = .ok (.return_, 1) := by decide +kernel
theorem dX0_movable_0 : decode cX0_movable 0 = .ok (.aload_n 0, 1) := by decide +kernel
theorem dX0_movable_1 : decode cX0_movable 1 = .ok (.getfield 15, 3) := by decide +kernel
theorem dX0_movable_4 : decode cX0_movable 4 = .ok (.aload_n 0, 1) := by decide +kernel
theorem dX0_movable_5 : decode cX0_movable 5 = .ok (.getfield 18, 3) := by decide +kernel
theorem dX0_movable_8 : decode cX0_movable 8 = .ok (.iconst 1, 1) := by decide +kernel
theorem dX0_movable_9 : decode cX0_movable 9 = .ok (.isub, 1) := by decide +kernel
theorem dX0_movable_10 : decode cX0_movable 10 = .ok (.iaload, 1) := by decide +kernel
theorem dX0_movable_11 : decode cX0_movable 11 = .ok (.istore_n 2, 1) := by decide +kernel
theorem dX0_movable_12 : decode cX0_movable 12 = .ok (.iload_n 1, 1) := by decide +kernel
theorem dX0_movable_13 : decode cX0_movable 13 = .ok (.ifCond .ge 5, 3) := by decide +kernel
theorem dX0_movable_16 : decode cX0_movable 16 = .ok (.iconst 0, 1) := by decide +kernel
theorem dX0_movable_17 : decode cX0_movable 17 = .ok (.ireturn, 1) := by decide +kernel
theorem dX0_movable_18 : decode cX0_movable 18 = .ok (.iload_n 1, 1) := by decide +kernel
theorem dX0_movable_19 : decode cX0_movable 19 = .ok (.iload_n 2, 1) := by decide +kernel
theorem dX0_movable_20 : decode cX0_movable 20 = .ok (.if_icmp .le 7, 3) := by decide +kernel
theorem dX0_movable_23 : decode cX0_movable 23 = .ok (.iload_n 2, 1) := by decide +kernel
theorem dX0_movable_24 : decode cX0_movable 24 = .ok (.goto 4, 3) := by decide +kernel
theorem dX0_movable_27 : decode cX0_movable 27 = .ok (.iload_n 1, 1) := by decide +kernel
theorem dX0_movable_28 : decode cX0_movable 28 = .ok (.ireturn, 1) := by decide +kernel
theorem dX0_openStack_0 : decode cX0_openStack 0 = .ok (.aload_n 0, 1) := by decide +kernel
theorem dX0_openStack_1 : decode cX0_openStack 1 = .ok (.getfield 18, 3) := by decide +kernel
theorem dX0_openStack_4 : decode cX0_openStack 4 = .ok (.iconst 3, 1) := by decide +kernel
theorem dX0_openStack_5 : decode cX0_openStack 5 = .ok (.if_icmp .lt 4, 3) := by decide +kernel
theorem dX0_openStack_8 : decode cX0_openStack 8 = .ok (.return_, 1) := by decide +kernel
theorem dX0_openStack_9 : decode cX0_openStack 9 = .ok (.aload_n 0, 1) := by decide +kernel
theorem dX0_openStack_10 : decode cX0_openStack 10 = .ok (.iload_n 1, 1) := by decide +kernel
theorem dX0_openStack_11 : decode cX0_openStack 11 = .ok (.invokevirtual 82, 3) := by decide +kernel
theorem dX0_openStack_14 : decode cX0_openStack 14 = .ok (.istore_n 2, 1) := by decide +kernel
theorem dX0_openStack_15 : decode cX0_openStack 15 = .ok (.aload_n 0, 1) := by decide +kernel
theorem dX0_openStack_16 : decode cX0_openStack 16 = .ok (.getfield 15, 3) := by decide +kernel
theorem dX0_openStack_19 : decode cX0_openStack 19 = .ok (.aload_n 0, 1) := by decide +kernel
theorem dX0_openStack_20 : decode cX0_openStack 20 = .ok (.getfield 18, 3) := by decide +kernel
theorem dX0_openStack_23 : decode cX0_openStack 23 = .ok (.iconst 1, 1) := by decide +kernel
theorem dX0_openStack_24 : decode cX0_openStack 24 = .ok (.isub, 1) := by decide +kernel
theorem dX0_openStack_25 : decode cX0_openStack 25 = .ok (.dup2, 1) := by decide +kernel
theorem dX0_openStack_26 : decode cX0_openStack 26 = .ok (.iaload, 1) := by decide +kernel
theorem dX0_openStack_27 : decode cX0_openStack 27 = .ok (.iload_n 2, 1) := by decide +kernel
theorem dX0_openStack_28 : decode cX0_openStack 28 = .ok (.isub, 1) := by decide +kernel
theorem dX0_openStack_29 : decode cX0_openStack 29 = .ok (.iastore, 1) := by decide +kernel
theorem dX0_openStack_30 : decode cX0_openStack 30 = .ok (.aload_n 0, 1) := by decide +kernel
theorem dX0_openStack_31 : decode cX0_openStack 31 = .ok (.getfield 15, 3) := by decide +kernel
theorem dX0_openStack_34 : decode cX0_openStack 34 = .ok (.aload_n 0, 1) := by decide +kernel
theorem dX0_openStack_35 : decode cX0_openStack 35 = .ok (.getfield 18, 3) := by decide +kernel
theorem dX0_openStack_38 : decode cX0_openStack 38 = .ok (.iload_n 2, 1) := by decide +kernel
theorem dX0_openStack_39 : decode cX0_openStack 39 = .ok (.iastore, 1) := by decide +kernel
theorem dX0_openStack_40 : decode cX0_openStack 40 = .ok (.aload_n 0, 1) := by decide +kernel
theorem dX0_openStack_41 : decode cX0_openStack 41 = .ok (.dup, 1) := by decide +kernel
theorem dX0_openStack_42 : decode cX0_openStack 42 = .ok (.getfield 18, 3) := by decide +kernel
theorem dX0_openStack_45 : decode cX0_openStack 45 = .ok (.iconst 1, 1) := by decide +kernel
theorem dX0_openStack_46 : decode cX0_openStack 46 = .ok (.iadd, 1) := by decide +kernel
theorem dX0_openStack_47 : decode cX0_openStack 47 = .ok (.putfield 18, 3) := by decide +kernel
theorem dX0_openStack_50 : decode cX0_openStack 50 = .ok (.return_, 1) := by decide +kernel
theorem dX0_closeStack_0 : decode cX0_closeStack 0 = .ok (.aload_n 0, 1) := by decide +kernel
theorem dX0_closeStack_1 : decode cX0_closeStack 1 = .ok (.getfield 18, 3) := by decide +kernel
theorem dX0_closeStack_4 : decode cX0_closeStack 4 = .ok (.iconst 1, 1) := by decide +kernel
theorem dX0_closeStack_5 : decode cX0_closeStack 5 = .ok (.if_icmp .gt 9, 3) := by decide +kernel
theorem dX0_closeStack_8 : decode cX0_closeStack 8 = .ok (.aload_n 0, 1) := by decide +kernel
theorem dX0_closeStack_9 : decode cX0_closeStack 9 = .ok (.iconst 2, 1) := by decide +kernel
theorem dX0_closeStack_10 : decode cX0_closeStack 10 = .ok (.invokevirtual 76, 3) := by decide +kernel
theorem dX0_closeStack_13 : decode cX0_closeStack 13 = .ok (.return_, 1) := by decide +kernel
theorem dX0_closeStack_14 : decode cX0_closeStack 14 = .ok (.aload_n 0, 1) := by decide +kernel
theorem dX0_closeStack_15 : decode cX0_closeStack 15 = .ok (.aload_n 0, 1) := by decide +kernel
theorem dX0_closeStack_16 : decode cX0_closeStack 16 = .ok (.invokevirtual 50, 3) := by decide +kernel
theorem dX0_closeStack_19 : decode cX0_closeStack 19 = .ok (.invokevirtual 82, 3) := by decide +kernel
theorem dX0_closeStack_22 : decode cX0_closeStack 22 = .ok (.istore_n 1, 1) := by decide +kernel
theorem dX0_closeStack_23 : decode cX0_closeStack 23 = .ok (.aload_n 0, 1) := by decide +kernel
theorem dX0_closeStack_24 : decode cX0_closeStack 24 = .ok (.getfield 18, 3) := by decide +kernel
theorem dX0_closeStack_27 : decode cX0_closeStack 27 = .ok (.iconst 1, 1) := by decide +kernel
theorem dX0_closeStack_28 : decode cX0_closeStack 28 = .ok (.isub, 1) := by decide +kernel
theorem dX0_closeStack_29 : decode cX0_closeStack 29 = .ok (.istore_n 2, 1) := by decide +kernel
theorem dX0_closeStack_30 : decode cX0_closeStack 30 = .ok (.aload_n 0, 1) := by decide +kernel
theorem dX0_closeStack_31 : decode cX0_closeStack 31 = .ok (.getfield 37, 3) := by decide +kernel
theorem dX0_closeStack_34 : decode cX0_closeStack 34 = .ok (.aload_n 0, 1) := by decide +kernel
theorem dX0_closeStack_35 : decode cX0_closeStack 35 = .ok (.getfield 15, 3) := by decide +kernel
theorem dX0_closeStack_38 : decode cX0_closeStack 38 = .ok (.iload_n 2, 1) := by decide +kernel
theorem dX0_closeStack_39 : decode cX0_closeStack 39 = .ok (.iaload, 1) := by decide +kernel
theorem dX0_closeStack_40 : decode cX0_closeStack 40 = .ok (.isub, 1) := by decide +kernel
theorem dX0_closeStack_41 : decode cX0_closeStack 41 = .ok (.istore_n 3, 1) := by decide +kernel
theorem dX0_closeStack_42 : decode cX0_closeStack 42 = .ok (.aload_n 0, 1) := by decide +kernel
theorem dX0_closeStack_43 : decode cX0_closeStack 43 = .ok (.getfield 9, 3) := by decide +kernel
theorem dX0_closeStack_46 : decode cX0_closeStack 46 = .ok (.aload_n 0, 1) := by decide +kernel
theorem dX0_closeStack_47 : decode cX0_closeStack 47 = .ok (.getfield 37, 3) := by decide +kernel
theorem dX0_closeStack_50 : decode cX0_closeStack 50 = .ok (.iload_n 1, 1) := by decide +kernel
theorem dX0_closeStack_51 : decode cX0_closeStack 51 = .ok (.isub, 1) := by decide +kernel
theorem dX0_closeStack_52 : decode cX0_closeStack 52 = .ok (.aload_n 0, 1) := by decide +kernel
theorem dX0_closeStack_53 : decode cX0_closeStack 53 = .ok (.getfield 9, 3) := by decide +kernel
theorem dX0_closeStack_56 : decode cX0_closeStack 56 = .ok (.iload_n 3, 1) := by decide +kernel
theorem dX0_closeStack_57 : decode cX0_closeStack 57 = .ok (.iload_n 1, 1) := by decide +kernel
theorem dX0_closeStack_58 : decode cX0_closeStack 58 = .ok (.invokestatic 40, 3) := by decide +kernel
theorem dX0_closeStack_61 : decode cX0_closeStack 61 = .ok (.aload_n 0, 1) := by decide +kernel
theorem dX0_closeStack_62 : decode cX0_closeStack 62 = .ok (.iload_n 3, 1) := by decide +kernel
theorem dX0_closeStack_63 : decode cX0_closeStack 63 = .ok (.iload_n 1, 1) := by decide +kernel
theorem dX0_closeStack_64 : decode cX0_closeStack 64 = .ok (.iadd, 1) := by decide +kernel
theorem dX0_closeStack_65 : decode cX0_closeStack 65 = .ok (.putfield 37, 3) := by decide +kernel
theorem dX0_closeStack_68 : decode cX0_closeStack 68 = .ok (.aload_n 0, 1) := by decide +kernel
theorem dX0_closeStack_69 : decode cX0_closeStack 69 = .ok (.getfield 15, 3) := by decide +kernel
theorem dX0_closeStack_72 : decode cX0_closeStack 72 = .ok (.iload_n 2, 1) := by decide +kernel
theorem dX0_closeStack_73 : decode cX0_closeStack 73 = .ok (.iconst 1, 1) := by decide +kernel
theorem dX0_closeStack_74 : decode cX0_closeStack 74 = .ok (.isub, 1) := by decide +kernel
theorem dX0_closeStack_75 : decode cX0_closeStack 75 = .ok (.dup2, 1) := by decide +kernel
theorem dX0_closeStack_76 : decode cX0_closeStack 76 = .ok (.iaload, 1) := by decide +kernel
theorem dX0_closeStack_77 : decode cX0_closeStack 77 = .ok (.iload_n 1, 1) := by decide +kernel
theorem dX0_closeStack_78 : decode cX0_closeStack 78 = .ok (.iadd, 1) := by decide +kernel
theorem dX0_closeStack_79 : decode cX0_closeStack 79 = .ok (.iastore, 1) := by decide +kernel
theorem dX0_closeStack_80 : decode cX0_closeStack 80 = .ok (.aload_n 0, 1) := by decide +kernel
theorem dX0_closeStack_81 : decode cX0_closeStack 81 = .ok (.dup, 1) := by decide +kernel
theorem dX0_closeStack_82 : decode cX0_closeStack 82 = .ok (.getfield 18, 3) := by decide +kernel
theorem dX0_closeStack_85 : decode cX0_closeStack 85 = .ok (.iconst 1, 1) := by decide +kernel
theorem dX0_closeStack_86 : decode cX0_closeStack 86 = .ok (.isub, 1) := by decide +kernel
theorem dX0_closeStack_87 : decode cX0_closeStack 87 = .ok (.putfield 18, 3) := by decide +kernel
theorem dX0_closeStack_90 : decode cX0_closeStack 90 = .ok (.return_, 1) := by decide +kernel
end
section
theorem dX1_init_0 : decode cX1_init 0 = .ok (.aload_n 0, 1) := by decide +kernel
theorem dX1_init_1 : decode cX1_init 1 = .ok (.invokespecial 3, 3) := by decide +kernel
theorem dX1_init_4 : decode cX1_init 4 = .ok (.aload_n 0, 1) := by decide +kernel
theorem dX1_init_5 : decode cX1_init 5 = .ok (.bipush 72, 2) := by decide +kernel
theorem dX1_init_7 : decode cX1_init 7 = .ok (.newarray .int, 2) := by decide +kernel
theorem dX1_init_9 : decode cX1_init 9 = .ok (.putfield 9, 3) := by decide +kernel
theorem dX1_init_12 : decode cX1_init 12 = .ok (.aload_n 0, 1) := by decide +kernel
theorem dX1_init_13 : decode cX1_init 13 = .ok (.bipush 72, 2) := by decide +kernel
theorem dX1_init_15 : decode cX1_init 15 = .ok (.newarray .int, 2) := by decide +kernel
theorem dX1_init_17 : decode cX1_init 17 = .ok (.putfield 15, 3) := by decide +kernel
theorem dX1_init_20 : decode cX1_init 20 = .ok (.aload_n 0, 1) := by decide +kernel
theorem dX1_init_21 : decode cX1_init 21 = .ok (.iconst 4, 1) := by decide +kernel
theorem dX1_init_22 : decode cX1_init 22 = .ok (.anewarray 18, 3) := by decide +kernel
theorem dX1_init_25 : decode cX1_init 25 = .ok (.putfield 20, 3) := by decide +kernel
theorem dX1_init_28 : decode cX1_init 28 = .ok (.aload_n 0, 1) := by decide +kernel
theorem dX1_init_29 : decode cX1_init 29 = .ok (.iconst 4, 1) := by decide +kernel
theorem dX1_init_30 : decode cX1_init 30 = .ok (.newarray .int, 2) := by decide +kernel
theorem dX1_init_32 : decode cX1_init 32 = .ok (.putfield 24, 3) := by decide +kernel
theorem dX1_init_35 : decode cX1_init 35 = .ok (.aload_n 0, 1) := by decide +kernel
theorem dX1_init_36 : decode cX1_init 36 = .ok (.bipush 16, 2) := by decide +kernel
theorem dX1_init_38 : decode cX1_init 38 = .ok (.newarray .int, 2) := by decide +kernel
theorem dX1_init_40 : decode cX1_init 40 = .ok (.putfield 27, 3) := by decide +kernel
theorem dX1_init_43 : decode cX1_init 43 = .ok (.aload_n 0, 1) := by decide +kernel
theorem dX1_init_44 : decode cX1_init 44 = .ok (.bipush 20, 2) := by decide +kernel
theorem dX1_init_46 : decode cX1_init 46 = .ok (.newarray .int, 2) := by decide +kernel
theorem dX1_init_48 : decode cX1_init 48 = .ok (.putfield 30, 3) := by decide +kernel
theorem dX1_init_51 : decode cX1_init 51 = .ok (.iconst 0, 1) := by decide +kernel
theorem dX1_init_52 : decode cX1_init 52 = .ok (.istore_n 1, 1) := by decide +kernel
theorem dX1_init_53 : decode cX1_init 53 = .ok (.iload_n 1, 1) := by decide +kernel
theorem dX1_init_54 : decode cX1_init 54 = .ok (.bipush 72, 2) := by decide +kernel
theorem dX1_init_56 : decode cX1_init 56 = .ok (.if_icmp .ge 25, 3) := by decide +kernel
theorem dX1_init_59 : decode cX1_init 59 = .ok (.aload_n 0, 1) := by decide +kernel
theorem dX1_init_60 : decode cX1_init 60 = .ok (.getfield 9, 3) := by decide +kernel
theorem dX1_init_63 : decode cX1_init 63 = .ok (.iload_n 1, 1) := by decide +kernel
theorem dX1_init_64 : decode cX1_init 64 = .ok (.bipush 32, 2) := by decide +kernel
theorem dX1_init_66 : decode cX1_init 66 = .ok (.iastore, 1) := by decide +kernel
theorem dX1_init_67 : decode cX1_init 67 = .ok (.aload_n 0, 1) := by decide +kernel
theorem dX1_init_68 : decode cX1_init 68 = .ok (.getfield 15, 3) := by decide +kernel
theorem dX1_init_71 : decode cX1_init 71 = .ok (.iload_n 1, 1) := by decide +kernel
theorem dX1_init_72 : decode cX1_init 72 = .ok (.bipush 32, 2) := by decide +kernel
theorem dX1_init_74 : decode cX1_init 74 = .ok (.iastore, 1) := by decide +kernel
theorem dX1_init_75 : decode cX1_init 75 = .ok (.iinc 1 1, 3) := by decide +kernel
theorem dX1_init_78 : decode cX1_init 78 = .ok (.goto (-25), 3) := by decide +kernel
theorem dX1_init_81 : decode cX1_init 81 = .ok (.iconst 0, 1) := by decide +kernel
theorem dX1_init_82 : decode cX1_init 82 = .ok (.istore_n 1, 1) := by decide +kernel
theorem dX1_init_83 : decode cX1_init 83 = .ok (.iload_n 1, 1) := by decide +kernel
theorem dX1_init_84 : decode cX1_init 84 = .ok (.iconst 4, 1) := by decide +kernel
theorem dX1_init_85 : decode cX1_init 85 = .ok (.if_icmp .ge 22, 3) := by decide +kernel
theorem dX1_init_88 : decode cX1_init 88 = .ok (.aload_n 0, 1) := by decide +kernel
theorem dX1_init_89 : decode cX1_init 89 = .ok (.getfield 20, 3) := by decide +kernel
theorem dX1_init_92 : decode cX1_init 92 = .ok (.iload_n 1, 1) := by decide +kernel
theorem dX1_init_93 : decode cX1_init 93 = .ok (.new 18, 3) := by decide +kernel
theorem dX1_init_96 : decode cX1_init 96 = .ok (.dup, 1) := by decide +kernel
theorem dX1_init_97 : decode cX1_init 97 = .ok (.invokespecial 33, 3) := by decide +kernel
theorem dX1_init_100 : decode cX1_init 100 = .ok (.aastore, 1) := by decide +kernel
theorem dX1_init_101 : decode cX1_init 101 = .ok (.iinc 1 1, 3) := by decide +kernel
theorem dX1_init_104 : decode cX1_init 104 = .ok (.goto (-21), 3) := by decide +kernel
theorem dX1_init_107 : decode cX1_init 107 = .ok (.aload_n 0, 1) := by decide +kernel
theorem dX1_init_108 : decode cX1_init 108 = .ok (.iconst 1, 1) := by decide +kernel
theorem dX1_init_109 : decode cX1_init 109 = .ok (.putfield 34, 3) := by decide +kernel
theorem dX1_init_112 : decode cX1_init 112 = .ok (.return_, 1) := by decide +kernel
theorem dX1_copyFrom_0 : decode cX1_copyFrom 0 = .ok (.aload_n 1, 1) := by decide +kernel
theorem dX1_copyFrom_1 : decode cX1_copyFrom 1 = .ok (.getfield 9, 3) := by decide +kernel
theorem dX1_copyFrom_4 : decode cX1_copyFrom 4 = .ok (.iconst 0, 1) := by decide +kernel
theorem dX1_copyFrom_5 : decode cX1_copyFrom 5 = .ok (.aload_n 0, 1) := by decide +kernel
theorem dX1_copyFrom_6 : decode cX1_copyFrom 6 = .ok (.getfield 9, 3) := by decide +kernel
theorem dX1_copyFrom_9 : decode cX1_copyFrom 9 = .ok (.iconst 0, 1) := by decide +kernel
theorem dX1_copyFrom_10 : decode cX1_copyFrom 10 = .ok (.bipush 72, 2) := by decide +kernel
theorem dX1_copyFrom_12 : decode cX1_copyFrom 12 = .ok (.invokestatic 38, 3) := by decide +kernel
theorem dX1_copyFrom_15 : decode cX1_copyFrom 15 = .ok (.aload_n 1, 1) := by decide +kernel
theorem dX1_copyFrom_16 : decode cX1_copyFrom 16 = .ok (.getfield 15, 3) := by decide +kernel
theorem dX1_copyFrom_19 : decode cX1_copyFrom 19 = .ok (.iconst 0, 1) := by decide +kernel
theorem dX1_copyFrom_20 : decode cX1_copyFrom 20 = .ok (.aload_n 0, 1) := by decide +kernel
theorem dX1_copyFrom_21 : decode cX1_copyFrom 21 = .ok (.getfield 15, 3) := by decide +kernel
theorem dX1_copyFrom_24 : decode cX1_copyFrom 24 = .ok (.iconst 0, 1) := by decide +kernel
theorem dX1_copyFrom_25 : decode cX1_copyFrom 25 = .ok (.bipush 72, 2) := by decide +kernel
theorem dX1_copyFrom_27 : decode cX1_copyFrom 27 = .ok (.invokestatic 38, 3) := by decide +kernel
theorem dX1_copyFrom_30 : decode cX1_copyFrom 30 = .ok (.aload_n 0, 1) := by decide +kernel
theorem dX1_copyFrom_31 : decode cX1_copyFrom 31 = .ok (.aload_n 1, 1) := by decide +kernel
theorem dX1_copyFrom_32 : decode cX1_copyFrom 32 = .ok (.getfield 34, 3) := by decide +kernel
theorem dX1_copyFrom_35 : decode cX1_copyFrom 35 = .ok (.putfield 34, 3) := by decide +kernel
theorem dX1_copyFrom_38 : decode cX1_copyFrom 38 = .ok (.iconst 0, 1) := by decide +kernel
theorem dX1_copyFrom_39 : decode cX1_copyFrom 39 = .ok (.istore_n 2, 1) := by decide +kernel
theorem dX1_copyFrom_40 : decode cX1_copyFrom 40 = .ok (.iload_n 2, 1) := by decide +kernel
theorem dX1_copyFrom_41 : decode cX1_copyFrom 41 = .ok (.aload_n 0, 1) := by decide +kernel
theorem dX1_copyFrom_42 : decode cX1_copyFrom 42 = .ok (.getfield 34, 3) := by decide +kernel
theorem dX1_copyFrom_45 : decode cX1_copyFrom 45 = .ok (.if_icmp .ge 36, 3) := by decide +kernel
theorem dX1_copyFrom_48 : decode cX1_copyFrom 48 = .ok (.aload_n 0, 1) := by decide +kernel
theorem dX1_copyFrom_49 : decode cX1_copyFrom 49 = .ok (.getfield 20, 3) := by decide +kernel
theorem dX1_copyFrom_52 : decode cX1_copyFrom 52 = .ok (.iload_n 2, 1) := by decide +kernel
theorem dX1_copyFrom_53 : decode cX1_copyFrom 53 = .ok (.aaload, 1) := by decide +kernel
theorem dX1_copyFrom_54 : decode cX1_copyFrom 54 = .ok (.aload_n 1, 1) := by decide +kernel
theorem dX1_copyFrom_55 : decode cX1_copyFrom 55 = .ok (.getfield 20, 3) := by decide +kernel
theorem dX1_copyFrom_58 : decode cX1_copyFrom 58 = .ok (.iload_n 2, 1) := by decide +kernel
theorem dX1_copyFrom_59 : decode cX1_copyFrom 59 = .ok (.aaload, 1) := by decide +kernel
theorem dX1_copyFrom_60 : decode cX1_copyFrom 60 = .ok (.invokevirtual 44, 3) := by decide +kernel
theorem dX1_copyFrom_63 : decode cX1_copyFrom 63 = .ok (.aload_n 0, 1) := by decide +kernel
theorem dX1_copyFrom_64 : decode cX1_copyFrom 64 = .ok (.getfield 24, 3) := by decide +kernel
theorem dX1_copyFrom_67 : decode cX1_copyFrom 67 = .ok (.iload_n 2, 1) := by decide +kernel
theorem dX1_copyFrom_68 : decode cX1_copyFrom 68 = .ok (.aload_n 1, 1) := by decide +kernel
theorem dX1_copyFrom_69 : decode cX1_copyFrom 69 = .ok (.getfield 24, 3) := by decide +kernel
theorem dX1_copyFrom_72 : decode cX1_copyFrom 72 = .ok (.iload_n 2, 1) := by decide +kernel
theorem dX1_copyFrom_73 : decode cX1_copyFrom 73 = .ok (.iaload, 1) := by decide +kernel
theorem dX1_copyFrom_74 : decode cX1_copyFrom 74 = .ok (.iastore, 1) := by decide +kernel
theorem dX1_copyFrom_75 : decode cX1_copyFrom 75 = .ok (.iinc 2 1, 3) := by decide +kernel
theorem dX1_copyFrom_78 : decode cX1_copyFrom 78 = .ok (.goto (-38), 3) := by decide +kernel
theorem dX1_copyFrom_81 : decode cX1_copyFrom 81 = .ok (.aload_n 1, 1) := by decide +kernel
theorem dX1_copyFrom_82 : decode cX1_copyFrom 82 = .ok (.getfield 27, 3) := by decide +kernel
theorem dX1_copyFrom_85 : decode cX1_copyFrom 85 = .ok (.iconst 0, 1) := by decide +kernel
theorem dX1_copyFrom_86 : decode cX1_copyFrom 86 = .ok (.aload_n 0, 1) := by decide +kernel
theorem dX1_copyFrom_87 : decode cX1_copyFrom 87 = .ok (.getfield 27, 3) := by decide +kernel
theorem dX1_copyFrom_90 : decode cX1_copyFrom 90 = .ok (.iconst 0, 1) := by decide +kernel
theorem dX1_copyFrom_91 : decode cX1_copyFrom 91 = .ok (.bipush 16, 2) := by decide +kernel
theorem dX1_copyFrom_93 : decode cX1_copyFrom 93 = .ok (.invokestatic 38, 3) := by decide +kernel
theorem dX1_copyFrom_96 : decode cX1_copyFrom 96 = .ok (.aload_n 0, 1) := by decide +kernel
theorem dX1_copyFrom_97 : decode cX1_copyFrom 97 = .ok (.aload_n 1, 1) := by decide +kernel
theorem dX1_copyFrom_98 : decode cX1_copyFrom 98 = .ok (.getfield 48, 3) := by decide +kernel
theorem dX1_copyFrom_101 : decode cX1_copyFrom 101 = .ok (.putfield 48, 3) := by decide +kernel
theorem dX1_copyFrom_104 : decode cX1_copyFrom 104 = .ok (.aload_n 1, 1) := by decide +kernel
theorem dX1_copyFrom_105 : decode cX1_copyFrom 105 = .ok (.getfield 30, 3) := by decide +kernel
theorem dX1_copyFrom_108 : decode cX1_copyFrom 108 = .ok (.iconst 0, 1) := by decide +kernel
theorem dX1_copyFrom_109 : decode cX1_copyFrom 109 = .ok (.aload_n 0, 1) := by decide +kernel
theorem dX1_copyFrom_110 : decode cX1_copyFrom 110 = .ok (.getfield 30, 3) := by decide +kernel
theorem dX1_copyFrom_113 : decode cX1_copyFrom 113 = .ok (.iconst 0, 1) := by decide +kernel
theorem dX1_copyFrom_114 : decode cX1_copyFrom 114 = .ok (.bipush 20, 2) := by decide +kernel
theorem dX1_copyFrom_116 : decode cX1_copyFrom 116 = .ok (.invokestatic 38, 3) := by decide +kernel
theorem dX1_copyFrom_119 : decode cX1_copyFrom 119 = .ok (.aload_n 0, 1) := by decide +kernel
theorem dX1_copyFrom_120 : decode cX1_copyFrom 120 = .ok (.aload_n 1, 1) := by decide +kernel
theorem dX1_copyFrom_121 : decode cX1_copyFrom 121 = .ok (.getfield 51, 3) := by decide +kernel
theorem dX1_copyFrom_124 : decode cX1_copyFrom 124 = .ok (.putfield 51, 3) := by decide +kernel
theorem dX1_copyFrom_127 : decode cX1_copyFrom 127 = .ok (.aload_n 0, 1) := by decide +kernel
theorem dX1_copyFrom_128 : decode cX1_copyFrom 128 = .ok (.aload_n 1, 1) := by decide +kernel
theorem dX1_copyFrom_129 : decode cX1_copyFrom 129 = .ok (.getfield 54, 3) := by decide +kernel
theorem dX1_copyFrom_132 : decode cX1_copyFrom 132 = .ok (.putfield 54, 3) := by decide +kernel
theorem dX1_copyFrom_135 : decode cX1_copyFrom 135 = .ok (.aload_n 0, 1) := by decide +kernel
theorem dX1_copyFrom_136 : decode cX1_copyFrom 136 = .ok (.aload_n 1, 1) := by decide +kernel
theorem dX1_copyFrom_137 : decode cX1_copyFrom 137 = .ok (.getfield 57, 3) := by decide +kernel
theorem dX1_copyFrom_140 : decode cX1_copyFrom 140 = .ok (.putfield 57, 3) := by decide +kernel
theorem dX1_copyFrom_143 : decode cX1_copyFrom 143 = .ok (.return_, 1) := by decide +kernel
theorem dX1_hasConfigurationOf_0 : decode cX1_hasConfigurationOf 0 = .ok (.aload_n 0, 1) := by decide +kernel
theorem dX1_hasConfigurationOf_1 : decode cX1_hasConfigurationOf 1 = .ok (.getfield 34, 3) := by decide +kernel
theorem dX1_hasConfigurationOf_4 : decode cX1_hasConfigurationOf 4 = .ok (.aload_n 1, 1) := by decide +kernel
theorem dX1_hasConfigurationOf_5 : decode cX1_hasConfigurationOf 5 = .ok (.getfield 34, 3) := by decide +kernel
theorem dX1_hasConfigurationOf_8 : decode cX1_hasConfigurationOf 8 = .ok (.if_icmp .ne 14, 3) := by decide +kernel
theorem dX1_hasConfigurationOf_11 : decode cX1_hasConfigurationOf 11 = .ok (.aload_n 0, 1) := by decide +kernel
theorem dX1_hasConfigurationOf_12 : decode cX1_hasConfigurationOf 12 = .ok (.getfield 48, 3) := by decide +kernel
theorem dX1_hasConfigurationOf_15 : decode cX1_hasConfigurationOf 15 = .ok (.aload_n 1, 1) := by decide +kernel
theorem dX1_hasConfigurationOf_16 : decode cX1_hasConfigurationOf 16 = .ok (.getfield 48, 3) := by decide +kernel
theorem dX1_hasConfigurationOf_19 : decode cX1_hasConfigurationOf 19 = .ok (.if_icmp .eq 5, 3) := by decide +kernel
theorem dX1_hasConfigurationOf_22 : decode cX1_hasConfigurationOf 22 = .ok (.iconst 0, 1) := by decide +kernel
theorem dX1_hasConfigurationOf_23 : decode cX1_hasConfigurationOf 23 = .ok (.ireturn, 1) := by decide +kernel
theorem dX1_hasConfigurationOf_24 : decode cX1_hasConfigurationOf 24 = .ok (.iconst 0, 1) := by decide +kernel
theorem dX1_hasConfigurationOf_25 : decode cX1_hasConfigurationOf 25 = .ok (.istore_n 2, 1) := by decide +kernel
theorem dX1_hasConfigurationOf_26 : decode cX1_hasConfigurationOf 26 = .ok (.iload_n 2, 1) := by decide +kernel
theorem dX1_hasConfigurationOf_27 : decode cX1_hasConfigurationOf 27 = .ok (.aload_n 0, 1) := by decide +kernel
theorem dX1_hasConfigurationOf_28 : decode cX1_hasConfigurationOf 28 = .ok (.getfield 34, 3) := by decide +kernel
theorem dX1_hasConfigurationOf_31 : decode cX1_hasConfigurationOf 31 = .ok (.if_icmp .ge 44, 3) := by decide +kernel
theorem dX1_hasConfigurationOf_34 : decode cX1_hasConfigurationOf 34 = .ok (.aload_n 0, 1) := by decide +kernel
theorem dX1_hasConfigurationOf_35 : decode cX1_hasConfigurationOf 35 = .ok (.getfield 24, 3) := by decide +kernel
theorem dX1_hasConfigurationOf_38 : decode cX1_hasConfigurationOf 38 = .ok (.iload_n 2, 1) := by decide +kernel
theorem dX1_hasConfigurationOf_39 : decode cX1_hasConfigurationOf 39 = .ok (.iaload, 1) := by decide +kernel
theorem dX1_hasConfigurationOf_40 : decode cX1_hasConfigurationOf 40 = .ok (.aload_n 1, 1) := by decide +kernel
theorem dX1_hasConfigurationOf_41 : decode cX1_hasConfigurationOf 41 = .ok (.getfield 24, 3) := by decide +kernel
theorem dX1_hasConfigurationOf_44 : decode cX1_hasConfigurationOf 44 = .ok (.iload_n 2, 1) := by decide +kernel
theorem dX1_hasConfigurationOf_45 : decode cX1_hasConfigurationOf 45 = .ok (.iaload, 1) := by decide +kernel
theorem dX1_hasConfigurationOf_46 : decode cX1_hasConfigurationOf 46 = .ok (.if_icmp .ne 21, 3) := by decide +kernel
theorem dX1_hasConfigurationOf_49 : decode cX1_hasConfigurationOf 49 = .ok (.aload_n 0, 1) := by decide +kernel
theorem dX1_hasConfigurationOf_50 : decode cX1_hasConfigurationOf 50 = .ok (.getfield 20, 3) := by decide +kernel
theorem dX1_hasConfigurationOf_53 : decode cX1_hasConfigurationOf 53 = .ok (.iload_n 2, 1) := by decide +kernel
theorem dX1_hasConfigurationOf_54 : decode cX1_hasConfigurationOf 54 = .ok (.aaload, 1) := by decide +kernel
theorem dX1_hasConfigurationOf_55 : decode cX1_hasConfigurationOf 55 = .ok (.aload_n 1, 1) := by decide +kernel
theorem dX1_hasConfigurationOf_56 : decode cX1_hasConfigurationOf 56 = .ok (.getfield 20, 3) := by decide +kernel
theorem dX1_hasConfigurationOf_59 : decode cX1_hasConfigurationOf 59 = .ok (.iload_n 2, 1) := by decide +kernel
theorem dX1_hasConfigurationOf_60 : decode cX1_hasConfigurationOf 60 = .ok (.aaload, 1) := by decide +kernel
theorem dX1_hasConfigurationOf_61 : decode cX1_hasConfigurationOf 61 = .ok (.invokevirtual 60, 3) := by decide +kernel
theorem dX1_hasConfigurationOf_64 : decode cX1_hasConfigurationOf 64 = .ok (.ifCond .ne 5, 3) := by decide +kernel
theorem dX1_hasConfigurationOf_67 : decode cX1_hasConfigurationOf 67 = .ok (.iconst 0, 1) := by decide +kernel
theorem dX1_hasConfigurationOf_68 : decode cX1_hasConfigurationOf 68 = .ok (.ireturn, 1) := by decide +kernel
theorem dX1_hasConfigurationOf_69 : decode cX1_hasConfigurationOf 69 = .ok (.iinc 2 1, 3) := by decide +kernel
theorem dX1_hasConfigurationOf_72 : decode cX1_hasConfigurationOf 72 = .ok (.goto (-46), 3) := by decide +kernel
theorem dX1_hasConfigurationOf_75 : decode cX1_hasConfigurationOf 75 = .ok (.iconst 0, 1) := by decide +kernel
theorem dX1_hasConfigurationOf_76 : decode cX1_hasConfigurationOf 76 = .ok (.istore_n 2, 1) := by decide +kernel
theorem dX1_hasConfigurationOf_77 : decode cX1_hasConfigurationOf 77 = .ok (.iload_n 2, 1) := by decide +kernel
theorem dX1_hasConfigurationOf_78 : decode cX1_hasConfigurationOf 78 = .ok (.aload_n 0, 1) := by decide +kernel
theorem dX1_hasConfigurationOf_79 : decode cX1_hasConfigurationOf 79 = .ok (.getfield 48, 3) := by decide +kernel
theorem dX1_hasConfigurationOf_82 : decode cX1_hasConfigurationOf 82 = .ok (.if_icmp .ge 26, 3) := by decide +kernel
theorem dX1_hasConfigurationOf_85 : decode cX1_hasConfigurationOf 85 = .ok (.aload_n 0, 1) := by decide +kernel
theorem dX1_hasConfigurationOf_86 : decode cX1_hasConfigurationOf 86 = .ok (.getfield 27, 3) := by decide +kernel
theorem dX1_hasConfigurationOf_89 : decode cX1_hasConfigurationOf 89 = .ok (.iload_n 2, 1) := by decide +kernel
theorem dX1_hasConfigurationOf_90 : decode cX1_hasConfigurationOf 90 = .ok (.iaload, 1) := by decide +kernel
theorem dX1_hasConfigurationOf_91 : decode cX1_hasConfigurationOf 91 = .ok (.aload_n 1, 1) := by decide +kernel
theorem dX1_hasConfigurationOf_92 : decode cX1_hasConfigurationOf 92 = .ok (.getfield 27, 3) := by decide +kernel
theorem dX1_hasConfigurationOf_95 : decode cX1_hasConfigurationOf 95 = .ok (.iload_n 2, 1) := by decide +kernel
theorem dX1_hasConfigurationOf_96 : decode cX1_hasConfigurationOf 96 = .ok (.iaload, 1) := by decide +kernel
theorem dX1_hasConfigurationOf_97 : decode cX1_hasConfigurationOf 97 = .ok (.if_icmp .eq 5, 3) := by decide +kernel
theorem dX1_hasConfigurationOf_100 : decode cX1_hasConfigurationOf 100 = .ok (.iconst 0, 1) := by decide +kernel
theorem dX1_hasConfigurationOf_101 : decode cX1_hasConfigurationOf 101 = .ok (.ireturn, 1) := by decide +kernel
theorem dX1_hasConfigurationOf_102 : decode cX1_hasConfigurationOf 102 = .ok (.iinc 2 1, 3) := by decide +kernel
theorem dX1_hasConfigurationOf_105 : decode cX1_hasConfigurationOf 105 = .ok (.goto (-28), 3) := by decide +kernel
theorem dX1_hasConfigurationOf_108 : decode cX1_hasConfigurationOf 108 = .ok (.iconst 0, 1) := by decide +kernel
theorem dX1_hasConfigurationOf_109 : decode cX1_hasConfigurationOf 109 = .ok (.istore_n 2, 1) := by decide +kernel
theorem dX1_hasConfigurationOf_110 : decode cX1_hasConfigurationOf 110 = .ok (.iload_n 2, 1) := by decide +kernel
theorem dX1_hasConfigurationOf_111 : decode cX1_hasConfigurationOf 111 = .ok (.bipush 72, 2) := by decide +kernel
theorem dX1_hasConfigurationOf_113 : decode cX1_hasConfigurationOf 113 = .ok (.if_icmp .ge 26, 3) := by decide +kernel
theorem dX1_hasConfigurationOf_116 : decode cX1_hasConfigurationOf 116 = .ok (.aload_n 0, 1) := by decide +kernel
theorem dX1_hasConfigurationOf_117 : decode cX1_hasConfigurationOf 117 = .ok (.getfield 15, 3) := by decide +kernel
theorem dX1_hasConfigurationOf_120 : decode cX1_hasConfigurationOf 120 = .ok (.iload_n 2, 1) := by decide +kernel
theorem dX1_hasConfigurationOf_121 : decode cX1_hasConfigurationOf 121 = .ok (.iaload, 1) := by decide +kernel
theorem dX1_hasConfigurationOf_122 : decode cX1_hasConfigurationOf 122 = .ok (.aload_n 1, 1) := by decide +kernel
theorem dX1_hasConfigurationOf_123 : decode cX1_hasConfigurationOf 123 = .ok (.getfield 15, 3) := by decide +kernel
theorem dX1_hasConfigurationOf_126 : decode cX1_hasConfigurationOf 126 = .ok (.iload_n 2, 1) := by decide +kernel
theorem dX1_hasConfigurationOf_127 : decode cX1_hasConfigurationOf 127 = .ok (.iaload, 1) := by decide +kernel
theorem dX1_hasConfigurationOf_128 : decode cX1_hasConfigurationOf 128 = .ok (.if_icmp .eq 5, 3) := by decide +kernel
theorem dX1_hasConfigurationOf_131 : decode cX1_hasConfigurationOf 131 = .ok (.iconst 0, 1) := by decide +kernel
theorem dX1_hasConfigurationOf_132 : decode cX1_hasConfigurationOf 132 = .ok (.ireturn, 1) := by decide +kernel
theorem dX1_hasConfigurationOf_133 : decode cX1_hasConfigurationOf 133 = .ok (.iinc 2 1, 3) := by decide +kernel
theorem dX1_hasConfigurationOf_136 : decode cX1_hasConfigurationOf 136 = .ok (.goto (-26), 3) := by decide +kernel
theorem dX1_hasConfigurationOf_139 : decode cX1_hasConfigurationOf 139 = .ok (.iconst 1, 1) := by decide +kernel
theorem dX1_hasConfigurationOf_140 : decode cX1_hasConfigurationOf 140 = .ok (.ireturn, 1) := by decide +kernel
theorem dX1_beginRun_0 : decode cX1_beginRun 0 = .ok (.aload_n 0, 1) := by decide +kernel
theorem dX1_beginRun_1 : decode cX1_beginRun 1 = .ok (.getfield 9, 3) := by decide +kernel
theorem dX1_beginRun_4 : decode cX1_beginRun 4 = .ok (.iconst 0, 1) := by decide +kernel
theorem dX1_beginRun_5 : decode cX1_beginRun 5 = .ok (.aload_n 0, 1) := by decide +kernel
theorem dX1_beginRun_6 : decode cX1_beginRun 6 = .ok (.getfield 15, 3) := by decide +kernel
theorem dX1_beginRun_9 : decode cX1_beginRun 9 = .ok (.iconst 0, 1) := by decide +kernel
theorem dX1_beginRun_10 : decode cX1_beginRun 10 = .ok (.bipush 72, 2) := by decide +kernel
theorem dX1_beginRun_12 : decode cX1_beginRun 12 = .ok (.invokestatic 38, 3) := by decide +kernel
theorem dX1_beginRun_15 : decode cX1_beginRun 15 = .ok (.aload_n 0, 1) := by decide +kernel
theorem dX1_beginRun_16 : decode cX1_beginRun 16 = .ok (.getfield 20, 3) := by decide +kernel
theorem dX1_beginRun_19 : decode cX1_beginRun 19 = .ok (.iconst 0, 1) := by decide +kernel
theorem dX1_beginRun_20 : decode cX1_beginRun 20 = .ok (.aaload, 1) := by decide +kernel
theorem dX1_beginRun_21 : decode cX1_beginRun 21 = .ok (.invokevirtual 64, 3) := by decide +kernel
theorem dX1_beginRun_24 : decode cX1_beginRun 24 = .ok (.aload_n 0, 1) := by decide +kernel
theorem dX1_beginRun_25 : decode cX1_beginRun 25 = .ok (.getfield 24, 3) := by decide +kernel
theorem dX1_beginRun_28 : decode cX1_beginRun 28 = .ok (.iconst 0, 1) := by decide +kernel
theorem dX1_beginRun_29 : decode cX1_beginRun 29 = .ok (.iconst 0, 1) := by decide +kernel
theorem dX1_beginRun_30 : decode cX1_beginRun 30 = .ok (.iastore, 1) := by decide +kernel
theorem dX1_beginRun_31 : decode cX1_beginRun 31 = .ok (.aload_n 0, 1) := by decide +kernel
theorem dX1_beginRun_32 : decode cX1_beginRun 32 = .ok (.iconst 1, 1) := by decide +kernel
theorem dX1_beginRun_33 : decode cX1_beginRun 33 = .ok (.putfield 34, 3) := by decide +kernel
theorem dX1_beginRun_36 : decode cX1_beginRun 36 = .ok (.aload_n 0, 1) := by decide +kernel
theorem dX1_beginRun_37 : decode cX1_beginRun 37 = .ok (.iconst 0, 1) := by decide +kernel
theorem dX1_beginRun_38 : decode cX1_beginRun 38 = .ok (.putfield 51, 3) := by decide +kernel
theorem dX1_beginRun_41 : decode cX1_beginRun 41 = .ok (.aload_n 0, 1) := by decide +kernel
theorem dX1_beginRun_42 : decode cX1_beginRun 42 = .ok (.iconst 0, 1) := by decide +kernel
theorem dX1_beginRun_43 : decode cX1_beginRun 43 = .ok (.putfield 54, 3) := by decide +kernel
theorem dX1_beginRun_46 : decode cX1_beginRun 46 = .ok (.aload_n 0, 1) := by decide +kernel
theorem dX1_beginRun_47 : decode cX1_beginRun 47 = .ok (.iconst 0, 1) := by decide +kernel
theorem dX1_beginRun_48 : decode cX1_beginRun 48 = .ok (.putfield 57, 3) := by decide +kernel
theorem dX1_beginRun_51 : decode cX1_beginRun 51 = .ok (.return_, 1) := by decide +kernel
theorem dX1_countFilledCells_0 : decode cX1_countFilledCells 0 = .ok (.iconst 0, 1) := by decide +kernel
theorem dX1_countFilledCells_1 : decode cX1_countFilledCells 1 = .ok (.istore_n 1, 1) := by decide +kernel
theorem dX1_countFilledCells_2 : decode cX1_countFilledCells 2 = .ok (.iconst 0, 1) := by decide +kernel
theorem dX1_countFilledCells_3 : decode cX1_countFilledCells 3 = .ok (.istore_n 2, 1) := by decide +kernel
theorem dX1_countFilledCells_4 : decode cX1_countFilledCells 4 = .ok (.iload_n 2, 1) := by decide +kernel
theorem dX1_countFilledCells_5 : decode cX1_countFilledCells 5 = .ok (.bipush 72, 2) := by decide +kernel
theorem dX1_countFilledCells_7 : decode cX1_countFilledCells 7 = .ok (.if_icmp .ge 23, 3) := by decide +kernel
theorem dX1_countFilledCells_10 : decode cX1_countFilledCells 10 = .ok (.aload_n 0, 1) := by decide +kernel
theorem dX1_countFilledCells_11 : decode cX1_countFilledCells 11 = .ok (.getfield 15, 3) := by decide +kernel
theorem dX1_countFilledCells_14 : decode cX1_countFilledCells 14 = .ok (.iload_n 2, 1) := by decide +kernel
theorem dX1_countFilledCells_15 : decode cX1_countFilledCells 15 = .ok (.iaload, 1) := by decide +kernel
theorem dX1_countFilledCells_16 : decode cX1_countFilledCells 16 = .ok (.bipush 32, 2) := by decide +kernel
theorem dX1_countFilledCells_18 : decode cX1_countFilledCells 18 = .ok (.if_icmp .eq 6, 3) := by decide +kernel
theorem dX1_countFilledCells_21 : decode cX1_countFilledCells 21 = .ok (.iinc 1 1, 3) := by decide +kernel
theorem dX1_countFilledCells_24 : decode cX1_countFilledCells 24 = .ok (.iinc 2 1, 3) := by decide +kernel
theorem dX1_countFilledCells_27 : decode cX1_countFilledCells 27 = .ok (.goto (-23), 3) := by decide +kernel
theorem dX1_countFilledCells_30 : decode cX1_countFilledCells 30 = .ok (.iload_n 1, 1) := by decide +kernel
theorem dX1_countFilledCells_31 : decode cX1_countFilledCells 31 = .ok (.ireturn, 1) := by decide +kernel
theorem dX1_isHalted_0 : decode cX1_isHalted 0 = .ok (.iconst 0, 1) := by decide +kernel
theorem dX1_isHalted_1 : decode cX1_isHalted 1 = .ok (.istore_n 1, 1) := by decide +kernel
theorem dX1_isHalted_2 : decode cX1_isHalted 2 = .ok (.iload_n 1, 1) := by decide +kernel
theorem dX1_isHalted_3 : decode cX1_isHalted 3 = .ok (.aload_n 0, 1) := by decide +kernel
theorem dX1_isHalted_4 : decode cX1_isHalted 4 = .ok (.getfield 34, 3) := by decide +kernel
theorem dX1_isHalted_7 : decode cX1_isHalted 7 = .ok (.if_icmp .ge 23, 3) := by decide +kernel
theorem dX1_isHalted_10 : decode cX1_isHalted 10 = .ok (.aload_n 0, 1) := by decide +kernel
theorem dX1_isHalted_11 : decode cX1_isHalted 11 = .ok (.getfield 20, 3) := by decide +kernel
theorem dX1_isHalted_14 : decode cX1_isHalted 14 = .ok (.iload_n 1, 1) := by decide +kernel
theorem dX1_isHalted_15 : decode cX1_isHalted 15 = .ok (.aaload, 1) := by decide +kernel
theorem dX1_isHalted_16 : decode cX1_isHalted 16 = .ok (.getfield 67, 3) := by decide +kernel
theorem dX1_isHalted_19 : decode cX1_isHalted 19 = .ok (.ifCond .ne 5, 3) := by decide +kernel
theorem dX1_isHalted_22 : decode cX1_isHalted 22 = .ok (.iconst 0, 1) := by decide +kernel
theorem dX1_isHalted_23 : decode cX1_isHalted 23 = .ok (.ireturn, 1) := by decide +kernel
theorem dX1_isHalted_24 : decode cX1_isHalted 24 = .ok (.iinc 1 1, 3) := by decide +kernel
theorem dX1_isHalted_27 : decode cX1_isHalted 27 = .ok (.goto (-25), 3) := by decide +kernel
theorem dX1_isHalted_30 : decode cX1_isHalted 30 = .ok (.iconst 1, 1) := by decide +kernel
theorem dX1_isHalted_31 : decode cX1_isHalted 31 = .ok (.ireturn, 1) := by decide +kernel
theorem dX1_addInput_0 : decode cX1_addInput 0 = .ok (.aload_n 0, 1) := by decide +kernel
theorem dX1_addInput_1 : decode cX1_addInput 1 = .ok (.getfield 48, 3) := by decide +kernel
theorem dX1_addInput_4 : decode cX1_addInput 4 = .ok (.bipush 16, 2) := by decide +kernel
theorem dX1_addInput_6 : decode cX1_addInput 6 = .ok (.if_icmp .ge 23, 3) := by decide +kernel
theorem dX1_addInput_9 : decode cX1_addInput 9 = .ok (.aload_n 0, 1) := by decide +kernel
theorem dX1_addInput_10 : decode cX1_addInput 10 = .ok (.getfield 27, 3) := by decide +kernel
theorem dX1_addInput_13 : decode cX1_addInput 13 = .ok (.aload_n 0, 1) := by decide +kernel
theorem dX1_addInput_14 : decode cX1_addInput 14 = .ok (.getfield 48, 3) := by decide +kernel
theorem dX1_addInput_17 : decode cX1_addInput 17 = .ok (.iload_n 1, 1) := by decide +kernel
theorem dX1_addInput_18 : decode cX1_addInput 18 = .ok (.iastore, 1) := by decide +kernel
theorem dX1_addInput_19 : decode cX1_addInput 19 = .ok (.aload_n 0, 1) := by decide +kernel
theorem dX1_addInput_20 : decode cX1_addInput 20 = .ok (.dup, 1) := by decide +kernel
theorem dX1_addInput_21 : decode cX1_addInput 21 = .ok (.getfield 48, 3) := by decide +kernel
theorem dX1_addInput_24 : decode cX1_addInput 24 = .ok (.iconst 1, 1) := by decide +kernel
theorem dX1_addInput_25 : decode cX1_addInput 25 = .ok (.iadd, 1) := by decide +kernel
theorem dX1_addInput_26 : decode cX1_addInput 26 = .ok (.putfield 48, 3) := by decide +kernel
theorem dX1_addInput_29 : decode cX1_addInput 29 = .ok (.return_, 1) := by decide +kernel
theorem dX1_performTick_0 : decode cX1_performTick 0 = .ok (.aload_n 0, 1) := by decide +kernel
theorem dX1_performTick_1 : decode cX1_performTick 1 = .ok (.getfield 34, 3) := by decide +kernel
theorem dX1_performTick_4 : decode cX1_performTick 4 = .ok (.istore_n 1, 1) := by decide +kernel
theorem dX1_performTick_5 : decode cX1_performTick 5 = .ok (.iconst 0, 1) := by decide +kernel
theorem dX1_performTick_6 : decode cX1_performTick 6 = .ok (.istore_n 2, 1) := by decide +kernel
theorem dX1_performTick_7 : decode cX1_performTick 7 = .ok (.iload_n 2, 1) := by decide +kernel
theorem dX1_performTick_8 : decode cX1_performTick 8 = .ok (.aload_n 0, 1) := by decide +kernel
theorem dX1_performTick_9 : decode cX1_performTick 9 = .ok (.getfield 34, 3) := by decide +kernel
theorem dX1_performTick_12 : decode cX1_performTick 12 = .ok (.if_icmp .ge 24, 3) := by decide +kernel
theorem dX1_performTick_15 : decode cX1_performTick 15 = .ok (.aload_n 0, 1) := by decide +kernel
theorem dX1_performTick_16 : decode cX1_performTick 16 = .ok (.getfield 24, 3) := by decide +kernel
theorem dX1_performTick_19 : decode cX1_performTick 19 = .ok (.iload_n 2, 1) := by decide +kernel
theorem dX1_performTick_20 : decode cX1_performTick 20 = .ok (.iaload, 1) := by decide +kernel
theorem dX1_performTick_21 : decode cX1_performTick 21 = .ok (.iload_n 1, 1) := by decide +kernel
theorem dX1_performTick_22 : decode cX1_performTick 22 = .ok (.if_icmp .ge 8, 3) := by decide +kernel
theorem dX1_performTick_25 : decode cX1_performTick 25 = .ok (.aload_n 0, 1) := by decide +kernel
theorem dX1_performTick_26 : decode cX1_performTick 26 = .ok (.iload_n 2, 1) := by decide +kernel
theorem dX1_performTick_27 : decode cX1_performTick 27 = .ok (.invokevirtual 70, 3) := by decide +kernel
theorem dX1_performTick_30 : decode cX1_performTick 30 = .ok (.iinc 2 1, 3) := by decide +kernel
theorem dX1_performTick_33 : decode cX1_performTick 33 = .ok (.goto (-26), 3) := by decide +kernel
theorem dX1_performTick_36 : decode cX1_performTick 36 = .ok (.aload_n 0, 1) := by decide +kernel
theorem dX1_performTick_37 : decode cX1_performTick 37 = .ok (.dup, 1) := by decide +kernel
theorem dX1_performTick_38 : decode cX1_performTick 38 = .ok (.getfield 57, 3) := by decide +kernel
theorem dX1_performTick_41 : decode cX1_performTick 41 = .ok (.iconst 1, 1) := by decide +kernel
theorem dX1_performTick_42 : decode cX1_performTick 42 = .ok (.iadd, 1) := by decide +kernel
theorem dX1_performTick_43 : decode cX1_performTick 43 = .ok (.putfield 57, 3) := by decide +kernel
theorem dX1_performTick_46 : decode cX1_performTick 46 = .ok (.return_, 1) := by decide +kernel
theorem dX1_takeTurn_0 : decode cX1_takeTurn 0 = .ok (.aload_n 0, 1) := by decide +kernel
theorem dX1_takeTurn_1 : decode cX1_takeTurn 1 = .ok (.getfield 20, 3) := by decide +kernel
theorem dX1_takeTurn_4 : decode cX1_takeTurn 4 = .ok (.aload_n 0, 1) := by decide +kernel
theorem dX1_takeTurn_5 : decode cX1_takeTurn 5 = .ok (.getfield 24, 3) := by decide +kernel
theorem dX1_takeTurn_8 : decode cX1_takeTurn 8 = .ok (.iload_n 1, 1) := by decide +kernel
theorem dX1_takeTurn_9 : decode cX1_takeTurn 9 = .ok (.iaload, 1) := by decide +kernel
theorem dX1_takeTurn_10 : decode cX1_takeTurn 10 = .ok (.aaload, 1) := by decide +kernel
theorem dX1_takeTurn_11 : decode cX1_takeTurn 11 = .ok (.astore_n 2, 1) := by decide +kernel
theorem dX1_takeTurn_12 : decode cX1_takeTurn 12 = .ok (.aload_n 2, 1) := by decide +kernel
theorem dX1_takeTurn_13 : decode cX1_takeTurn 13 = .ok (.getfield 67, 3) := by decide +kernel
theorem dX1_takeTurn_16 : decode cX1_takeTurn 16 = .ok (.ifCond .eq 4, 3) := by decide +kernel
theorem dX1_takeTurn_19 : decode cX1_takeTurn 19 = .ok (.return_, 1) := by decide +kernel
theorem dX1_takeTurn_20 : decode cX1_takeTurn 20 = .ok (.aload_n 2, 1) := by decide +kernel
theorem dX1_takeTurn_21 : decode cX1_takeTurn 21 = .ok (.getfield 74, 3) := by decide +kernel
theorem dX1_takeTurn_24 : decode cX1_takeTurn 24 = .ok (.ifCond .le 14, 3) := by decide +kernel
theorem dX1_takeTurn_27 : decode cX1_takeTurn 27 = .ok (.aload_n 2, 1) := by decide +kernel
theorem dX1_takeTurn_28 : decode cX1_takeTurn 28 = .ok (.dup, 1) := by decide +kernel
theorem dX1_takeTurn_29 : decode cX1_takeTurn 29 = .ok (.getfield 74, 3) := by decide +kernel
theorem dX1_takeTurn_32 : decode cX1_takeTurn 32 = .ok (.iconst 1, 1) := by decide +kernel
theorem dX1_takeTurn_33 : decode cX1_takeTurn 33 = .ok (.isub, 1) := by decide +kernel
theorem dX1_takeTurn_34 : decode cX1_takeTurn 34 = .ok (.putfield 74, 3) := by decide +kernel
theorem dX1_takeTurn_37 : decode cX1_takeTurn 37 = .ok (.return_, 1) := by decide +kernel
theorem dX1_takeTurn_38 : decode cX1_takeTurn 38 = .ok (.aload_n 0, 1) := by decide +kernel
theorem dX1_takeTurn_39 : decode cX1_takeTurn 39 = .ok (.getfield 15, 3) := by decide +kernel
theorem dX1_takeTurn_42 : decode cX1_takeTurn 42 = .ok (.aload_n 2, 1) := by decide +kernel
theorem dX1_takeTurn_43 : decode cX1_takeTurn 43 = .ok (.invokevirtual 77, 3) := by decide +kernel
theorem dX1_takeTurn_46 : decode cX1_takeTurn 46 = .ok (.iaload, 1) := by decide +kernel
theorem dX1_takeTurn_47 : decode cX1_takeTurn 47 = .ok (.istore_n 3, 1) := by decide +kernel
theorem dX1_takeTurn_48 : decode cX1_takeTurn 48 = .ok (.iload_n 3, 1) := by decide +kernel
theorem dX1_takeTurn_49 : decode cX1_takeTurn 49 = .ok (.lookupswitch 94 #[(46, 67), (103, 51), (112, 59), (116, 86), (126, 78)], 51) := by decide +kernel
theorem dX1_takeTurn_100 : decode cX1_takeTurn 100 = .ok (.aload_n 0, 1) := by decide +kernel
theorem dX1_takeTurn_101 : decode cX1_takeTurn 101 = .ok (.aload_n 2, 1) := by decide +kernel
theorem dX1_takeTurn_102 : decode cX1_takeTurn 102 = .ok (.invokevirtual 81, 3) := by decide +kernel
theorem dX1_takeTurn_105 : decode cX1_takeTurn 105 = .ok (.goto 43, 3) := by decide +kernel
theorem dX1_takeTurn_108 : decode cX1_takeTurn 108 = .ok (.aload_n 0, 1) := by decide +kernel
theorem dX1_takeTurn_109 : decode cX1_takeTurn 109 = .ok (.aload_n 2, 1) := by decide +kernel
theorem dX1_takeTurn_110 : decode cX1_takeTurn 110 = .ok (.invokevirtual 84, 3) := by decide +kernel
theorem dX1_takeTurn_113 : decode cX1_takeTurn 113 = .ok (.goto 35, 3) := by decide +kernel
theorem dX1_takeTurn_116 : decode cX1_takeTurn 116 = .ok (.aload_n 0, 1) := by decide +kernel
theorem dX1_takeTurn_117 : decode cX1_takeTurn 117 = .ok (.aload_n 2, 1) := by decide +kernel
theorem dX1_takeTurn_118 : decode cX1_takeTurn 118 = .ok (.invokevirtual 87, 3) := by decide +kernel
theorem dX1_takeTurn_121 : decode cX1_takeTurn 121 = .ok (.invokevirtual 90, 3) := by decide +kernel
theorem dX1_takeTurn_124 : decode cX1_takeTurn 124 = .ok (.goto 24, 3) := by decide +kernel
theorem dX1_takeTurn_127 : decode cX1_takeTurn 127 = .ok (.aload_n 0, 1) := by decide +kernel
theorem dX1_takeTurn_128 : decode cX1_takeTurn 128 = .ok (.aload_n 2, 1) := by decide +kernel
theorem dX1_takeTurn_129 : decode cX1_takeTurn 129 = .ok (.invokevirtual 93, 3) := by decide +kernel
theorem dX1_takeTurn_132 : decode cX1_takeTurn 132 = .ok (.goto 16, 3) := by decide +kernel
theorem dX1_takeTurn_135 : decode cX1_takeTurn 135 = .ok (.aload_n 0, 1) := by decide +kernel
theorem dX1_takeTurn_136 : decode cX1_takeTurn 136 = .ok (.iload_n 1, 1) := by decide +kernel
theorem dX1_takeTurn_137 : decode cX1_takeTurn 137 = .ok (.invokevirtual 96, 3) := by decide +kernel
theorem dX1_takeTurn_140 : decode cX1_takeTurn 140 = .ok (.goto 8, 3) := by decide +kernel
theorem dX1_takeTurn_143 : decode cX1_takeTurn 143 = .ok (.aload_n 2, 1) := by decide +kernel
theorem dX1_takeTurn_144 : decode cX1_takeTurn 144 = .ok (.iload_n 3, 1) := by decide +kernel
theorem dX1_takeTurn_145 : decode cX1_takeTurn 145 = .ok (.invokevirtual 99, 3) := by decide +kernel
theorem dX1_takeTurn_148 : decode cX1_takeTurn 148 = .ok (.aload_n 2, 1) := by decide +kernel
theorem dX1_takeTurn_149 : decode cX1_takeTurn 149 = .ok (.getfield 67, 3) := by decide +kernel
theorem dX1_takeTurn_152 : decode cX1_takeTurn 152 = .ok (.ifCond .ne 7, 3) := by decide +kernel
theorem dX1_takeTurn_155 : decode cX1_takeTurn 155 = .ok (.aload_n 2, 1) := by decide +kernel
theorem dX1_takeTurn_156 : decode cX1_takeTurn 156 = .ok (.invokevirtual 102, 3) := by decide +kernel
theorem dX1_takeTurn_159 : decode cX1_takeTurn 159 = .ok (.return_, 1) := by decide +kernel
theorem dX1_wrappedCell_0 : decode cX1_wrappedCell 0 = .ok (.bipush 12, 2) := by decide +kernel
theorem dX1_wrappedCell_2 : decode cX1_wrappedCell 2 = .ok (.iload_n 1, 1) := by decide +kernel
theorem dX1_wrappedCell_3 : decode cX1_wrappedCell 3 = .ok (.bipush 6, 2) := by decide +kernel
theorem dX1_wrappedCell_5 : decode cX1_wrappedCell 5 = .ok (.invokestatic 105, 3) := by decide +kernel
theorem dX1_wrappedCell_8 : decode cX1_wrappedCell 8 = .ok (.imul, 1) := by decide +kernel
theorem dX1_wrappedCell_9 : decode cX1_wrappedCell 9 = .ok (.iload_n 0, 1) := by decide +kernel
theorem dX1_wrappedCell_10 : decode cX1_wrappedCell 10 = .ok (.bipush 12, 2) := by decide +kernel
theorem dX1_wrappedCell_12 : decode cX1_wrappedCell 12 = .ok (.invokestatic 105, 3) := by decide +kernel
theorem dX1_wrappedCell_15 : decode cX1_wrappedCell 15 = .ok (.iadd, 1) := by decide +kernel
theorem dX1_wrappedCell_16 : decode cX1_wrappedCell 16 = .ok (.ireturn, 1) := by decide +kernel
theorem dX1_fetchCell_0 : decode cX1_fetchCell 0 = .ok (.aload_n 1, 1) := by decide +kernel
theorem dX1_fetchCell_1 : decode cX1_fetchCell 1 = .ok (.invokevirtual 87, 3) := by decide +kernel
theorem dX1_fetchCell_4 : decode cX1_fetchCell 4 = .ok (.istore_n 2, 1) := by decide +kernel
theorem dX1_fetchCell_5 : decode cX1_fetchCell 5 = .ok (.aload_n 1, 1) := by decide +kernel
theorem dX1_fetchCell_6 : decode cX1_fetchCell 6 = .ok (.invokevirtual 87, 3) := by decide +kernel
theorem dX1_fetchCell_9 : decode cX1_fetchCell 9 = .ok (.istore_n 3, 1) := by decide +kernel
theorem dX1_fetchCell_10 : decode cX1_fetchCell 10 = .ok (.aload_n 1, 1) := by decide +kernel
theorem dX1_fetchCell_11 : decode cX1_fetchCell 11 = .ok (.aload_n 0, 1) := by decide +kernel
theorem dX1_fetchCell_12 : decode cX1_fetchCell 12 = .ok (.getfield 15, 3) := by decide +kernel
theorem dX1_fetchCell_15 : decode cX1_fetchCell 15 = .ok (.iload_n 3, 1) := by decide +kernel
theorem dX1_fetchCell_16 : decode cX1_fetchCell 16 = .ok (.iload_n 2, 1) := by decide +kernel
theorem dX1_fetchCell_17 : decode cX1_fetchCell 17 = .ok (.invokestatic 111, 3) := by decide +kernel
theorem dX1_fetchCell_20 : decode cX1_fetchCell 20 = .ok (.iaload, 1) := by decide +kernel
theorem dX1_fetchCell_21 : decode cX1_fetchCell 21 = .ok (.invokevirtual 114, 3) := by decide +kernel
theorem dX1_fetchCell_24 : decode cX1_fetchCell 24 = .ok (.return_, 1) := by decide +kernel
theorem dX1_storeCell_0 : decode cX1_storeCell 0 = .ok (.aload_n 1, 1) := by decide +kernel
theorem dX1_storeCell_1 : decode cX1_storeCell 1 = .ok (.invokevirtual 87, 3) := by decide +kernel
theorem dX1_storeCell_4 : decode cX1_storeCell 4 = .ok (.istore_n 2, 1) := by decide +kernel
theorem dX1_storeCell_5 : decode cX1_storeCell 5 = .ok (.aload_n 1, 1) := by decide +kernel
theorem dX1_storeCell_6 : decode cX1_storeCell 6 = .ok (.invokevirtual 87, 3) := by decide +kernel
theorem dX1_storeCell_9 : decode cX1_storeCell 9 = .ok (.istore_n 3, 1) := by decide +kernel
theorem dX1_storeCell_10 : decode cX1_storeCell 10 = .ok (.aload_n 1, 1) := by decide +kernel
theorem dX1_storeCell_11 : decode cX1_storeCell 11 = .ok (.invokevirtual 87, 3) := by decide +kernel
theorem dX1_storeCell_14 : decode cX1_storeCell 14 = .ok (.istore 4, 2) := by decide +kernel
theorem dX1_storeCell_16 : decode cX1_storeCell 16 = .ok (.iload 4, 2) := by decide +kernel
theorem dX1_storeCell_18 : decode cX1_storeCell 18 = .ok (.invokestatic 117, 3) := by decide +kernel
theorem dX1_storeCell_21 : decode cX1_storeCell 21 = .ok (.ifCond .eq 15, 3) := by decide +kernel
theorem dX1_storeCell_24 : decode cX1_storeCell 24 = .ok (.aload_n 0, 1) := by decide +kernel
theorem dX1_storeCell_25 : decode cX1_storeCell 25 = .ok (.getfield 15, 3) := by decide +kernel
theorem dX1_storeCell_28 : decode cX1_storeCell 28 = .ok (.iload_n 3, 1) := by decide +kernel
theorem dX1_storeCell_29 : decode cX1_storeCell 29 = .ok (.iload_n 2, 1) := by decide +kernel
theorem dX1_storeCell_30 : decode cX1_storeCell 30 = .ok (.invokestatic 111, 3) := by decide +kernel
theorem dX1_storeCell_33 : decode cX1_storeCell 33 = .ok (.iload 4, 2) := by decide +kernel
theorem dX1_storeCell_35 : decode cX1_storeCell 35 = .ok (.iastore, 1) := by decide +kernel
theorem dX1_storeCell_36 : decode cX1_storeCell 36 = .ok (.return_, 1) := by decide +kernel
theorem dX1_addOutput_0 : decode cX1_addOutput 0 = .ok (.aload_n 0, 1) := by decide +kernel
theorem dX1_addOutput_1 : decode cX1_addOutput 1 = .ok (.getfield 51, 3) := by decide +kernel
theorem dX1_addOutput_4 : decode cX1_addOutput 4 = .ok (.bipush 20, 2) := by decide +kernel
theorem dX1_addOutput_6 : decode cX1_addOutput 6 = .ok (.if_icmp .lt 24, 3) := by decide +kernel
theorem dX1_addOutput_9 : decode cX1_addOutput 9 = .ok (.aload_n 0, 1) := by decide +kernel
theorem dX1_addOutput_10 : decode cX1_addOutput 10 = .ok (.getfield 30, 3) := by decide +kernel
theorem dX1_addOutput_13 : decode cX1_addOutput 13 = .ok (.iconst 1, 1) := by decide +kernel
theorem dX1_addOutput_14 : decode cX1_addOutput 14 = .ok (.aload_n 0, 1) := by decide +kernel
theorem dX1_addOutput_15 : decode cX1_addOutput 15 = .ok (.getfield 30, 3) := by decide +kernel
theorem dX1_addOutput_18 : decode cX1_addOutput 18 = .ok (.iconst 0, 1) := by decide +kernel
theorem dX1_addOutput_19 : decode cX1_addOutput 19 = .ok (.bipush 19, 2) := by decide +kernel
theorem dX1_addOutput_21 : decode cX1_addOutput 21 = .ok (.invokestatic 38, 3) := by decide +kernel
theorem dX1_addOutput_24 : decode cX1_addOutput 24 = .ok (.aload_n 0, 1) := by decide +kernel
theorem dX1_addOutput_25 : decode cX1_addOutput 25 = .ok (.bipush 19, 2) := by decide +kernel
theorem dX1_addOutput_27 : decode cX1_addOutput 27 = .ok (.putfield 51, 3) := by decide +kernel
theorem dX1_addOutput_30 : decode cX1_addOutput 30 = .ok (.aload_n 0, 1) := by decide +kernel
theorem dX1_addOutput_31 : decode cX1_addOutput 31 = .ok (.getfield 30, 3) := by decide +kernel
theorem dX1_addOutput_34 : decode cX1_addOutput 34 = .ok (.aload_n 0, 1) := by decide +kernel
theorem dX1_addOutput_35 : decode cX1_addOutput 35 = .ok (.getfield 51, 3) := by decide +kernel
theorem dX1_addOutput_38 : decode cX1_addOutput 38 = .ok (.iload_n 1, 1) := by decide +kernel
theorem dX1_addOutput_39 : decode cX1_addOutput 39 = .ok (.iastore, 1) := by decide +kernel
theorem dX1_addOutput_40 : decode cX1_addOutput 40 = .ok (.aload_n 0, 1) := by decide +kernel
theorem dX1_addOutput_41 : decode cX1_addOutput 41 = .ok (.dup, 1) := by decide +kernel
theorem dX1_addOutput_42 : decode cX1_addOutput 42 = .ok (.getfield 51, 3) := by decide +kernel
theorem dX1_addOutput_45 : decode cX1_addOutput 45 = .ok (.iconst 1, 1) := by decide +kernel
theorem dX1_addOutput_46 : decode cX1_addOutput 46 = .ok (.iadd, 1) := by decide +kernel
theorem dX1_addOutput_47 : decode cX1_addOutput 47 = .ok (.putfield 51, 3) := by decide +kernel
theorem dX1_addOutput_50 : decode cX1_addOutput 50 = .ok (.aload_n 0, 1) := by decide +kernel
theorem dX1_addOutput_51 : decode cX1_addOutput 51 = .ok (.dup, 1) := by decide +kernel
theorem dX1_addOutput_52 : decode cX1_addOutput 52 = .ok (.getfield 54, 3) := by decide +kernel
theorem dX1_addOutput_55 : decode cX1_addOutput 55 = .ok (.iconst 1, 1) := by decide +kernel
theorem dX1_addOutput_56 : decode cX1_addOutput 56 = .ok (.iadd, 1) := by decide +kernel
theorem dX1_addOutput_57 : decode cX1_addOutput 57 = .ok (.putfield 54, 3) := by decide +kernel
theorem dX1_addOutput_60 : decode cX1_addOutput 60 = .ok (.return_, 1) := by decide +kernel
theorem dX1_takeInput_0 : decode cX1_takeInput 0 = .ok (.aload_n 0, 1) := by decide +kernel
theorem dX1_takeInput_1 : decode cX1_takeInput 1 = .ok (.getfield 48, 3) := by decide +kernel
theorem dX1_takeInput_4 : decode cX1_takeInput 4 = .ok (.ifCond .gt 9, 3) := by decide +kernel
theorem dX1_takeInput_7 : decode cX1_takeInput 7 = .ok (.aload_n 1, 1) := by decide +kernel
theorem dX1_takeInput_8 : decode cX1_takeInput 8 = .ok (.iconst 2, 1) := by decide +kernel
theorem dX1_takeInput_9 : decode cX1_takeInput 9 = .ok (.invokevirtual 121, 3) := by decide +kernel
theorem dX1_takeInput_12 : decode cX1_takeInput 12 = .ok (.return_, 1) := by decide +kernel
theorem dX1_takeInput_13 : decode cX1_takeInput 13 = .ok (.aload_n 0, 1) := by decide +kernel
theorem dX1_takeInput_14 : decode cX1_takeInput 14 = .ok (.getfield 27, 3) := by decide +kernel
theorem dX1_takeInput_17 : decode cX1_takeInput 17 = .ok (.iconst 0, 1) := by decide +kernel
theorem dX1_takeInput_18 : decode cX1_takeInput 18 = .ok (.iaload, 1) := by decide +kernel
theorem dX1_takeInput_19 : decode cX1_takeInput 19 = .ok (.istore_n 2, 1) := by decide +kernel
theorem dX1_takeInput_20 : decode cX1_takeInput 20 = .ok (.aload_n 0, 1) := by decide +kernel
theorem dX1_takeInput_21 : decode cX1_takeInput 21 = .ok (.dup, 1) := by decide +kernel
theorem dX1_takeInput_22 : decode cX1_takeInput 22 = .ok (.getfield 48, 3) := by decide +kernel
theorem dX1_takeInput_25 : decode cX1_takeInput 25 = .ok (.iconst 1, 1) := by decide +kernel
theorem dX1_takeInput_26 : decode cX1_takeInput 26 = .ok (.isub, 1) := by decide +kernel
theorem dX1_takeInput_27 : decode cX1_takeInput 27 = .ok (.putfield 48, 3) := by decide +kernel
theorem dX1_takeInput_30 : decode cX1_takeInput 30 = .ok (.aload_n 0, 1) := by decide +kernel
theorem dX1_takeInput_31 : decode cX1_takeInput 31 = .ok (.getfield 27, 3) := by decide +kernel
theorem dX1_takeInput_34 : decode cX1_takeInput 34 = .ok (.iconst 1, 1) := by decide +kernel
theorem dX1_takeInput_35 : decode cX1_takeInput 35 = .ok (.aload_n 0, 1) := by decide +kernel
theorem dX1_takeInput_36 : decode cX1_takeInput 36 = .ok (.getfield 27, 3) := by decide +kernel
theorem dX1_takeInput_39 : decode cX1_takeInput 39 = .ok (.iconst 0, 1) := by decide +kernel
theorem dX1_takeInput_40 : decode cX1_takeInput 40 = .ok (.aload_n 0, 1) := by decide +kernel
theorem dX1_takeInput_41 : decode cX1_takeInput 41 = .ok (.getfield 48, 3) := by decide +kernel
theorem dX1_takeInput_44 : decode cX1_takeInput 44 = .ok (.invokestatic 38, 3) := by decide +kernel
theorem dX1_takeInput_47 : decode cX1_takeInput 47 = .ok (.aload_n 1, 1) := by decide +kernel
theorem dX1_takeInput_48 : decode cX1_takeInput 48 = .ok (.iload_n 2, 1) := by decide +kernel
theorem dX1_takeInput_49 : decode cX1_takeInput 49 = .ok (.invokevirtual 114, 3) := by decide +kernel
theorem dX1_takeInput_52 : decode cX1_takeInput 52 = .ok (.return_, 1) := by decide +kernel
theorem dX1_split_0 : decode cX1_split 0 = .ok (.aload_n 0, 1) := by decide +kernel
theorem dX1_split_1 : decode cX1_split 1 = .ok (.getfield 34, 3) := by decide +kernel
theorem dX1_split_4 : decode cX1_split 4 = .ok (.iconst 4, 1) := by decide +kernel
theorem dX1_split_5 : decode cX1_split 5 = .ok (.if_icmp .lt 4, 3) := by decide +kernel
theorem dX1_split_8 : decode cX1_split 8 = .ok (.return_, 1) := by decide +kernel
theorem dX1_split_9 : decode cX1_split 9 = .ok (.aload_n 0, 1) := by decide +kernel
theorem dX1_split_10 : decode cX1_split 10 = .ok (.getfield 34, 3) := by decide +kernel
theorem dX1_split_13 : decode cX1_split 13 = .ok (.istore_n 2, 1) := by decide +kernel
theorem dX1_split_14 : decode cX1_split 14 = .ok (.aload_n 0, 1) := by decide +kernel
theorem dX1_split_15 : decode cX1_split 15 = .ok (.getfield 20, 3) := by decide +kernel
theorem dX1_split_18 : decode cX1_split 18 = .ok (.iload_n 2, 1) := by decide +kernel
theorem dX1_split_19 : decode cX1_split 19 = .ok (.aaload, 1) := by decide +kernel
theorem dX1_split_20 : decode cX1_split 20 = .ok (.astore_n 3, 1) := by decide +kernel
theorem dX1_split_21 : decode cX1_split 21 = .ok (.aload_n 3, 1) := by decide +kernel
theorem dX1_split_22 : decode cX1_split 22 = .ok (.aload_n 0, 1) := by decide +kernel
theorem dX1_split_23 : decode cX1_split 23 = .ok (.getfield 20, 3) := by decide +kernel
theorem dX1_split_26 : decode cX1_split 26 = .ok (.aload_n 0, 1) := by decide +kernel
theorem dX1_split_27 : decode cX1_split 27 = .ok (.getfield 24, 3) := by decide +kernel
theorem dX1_split_30 : decode cX1_split 30 = .ok (.iload_n 1, 1) := by decide +kernel
theorem dX1_split_31 : decode cX1_split 31 = .ok (.iaload, 1) := by decide +kernel
theorem dX1_split_32 : decode cX1_split 32 = .ok (.aaload, 1) := by decide +kernel
theorem dX1_split_33 : decode cX1_split 33 = .ok (.invokevirtual 44, 3) := by decide +kernel
theorem dX1_split_36 : decode cX1_split 36 = .ok (.aload_n 3, 1) := by decide +kernel
theorem dX1_split_37 : decode cX1_split 37 = .ok (.iconst 2, 1) := by decide +kernel
theorem dX1_split_38 : decode cX1_split 38 = .ok (.invokevirtual 121, 3) := by decide +kernel
theorem dX1_split_41 : decode cX1_split 41 = .ok (.aload_n 3, 1) := by decide +kernel
theorem dX1_split_42 : decode cX1_split 42 = .ok (.invokevirtual 102, 3) := by decide +kernel
theorem dX1_split_45 : decode cX1_split 45 = .ok (.aload_n 0, 1) := by decide +kernel
theorem dX1_split_46 : decode cX1_split 46 = .ok (.getfield 34, 3) := by decide +kernel
theorem dX1_split_49 : decode cX1_split 49 = .ok (.istore 4, 2) := by decide +kernel
theorem dX1_split_51 : decode cX1_split 51 = .ok (.iload 4, 2) := by decide +kernel
theorem dX1_split_53 : decode cX1_split 53 = .ok (.iload_n 1, 1) := by decide +kernel
theorem dX1_split_54 : decode cX1_split 54 = .ok (.iconst 1, 1) := by decide +kernel
theorem dX1_split_55 : decode cX1_split 55 = .ok (.iadd, 1) := by decide +kernel
theorem dX1_split_56 : decode cX1_split 56 = .ok (.if_icmp .le 25, 3) := by decide +kernel
theorem dX1_split_59 : decode cX1_split 59 = .ok (.aload_n 0, 1) := by decide +kernel
theorem dX1_split_60 : decode cX1_split 60 = .ok (.getfield 24, 3) := by decide +kernel
theorem dX1_split_63 : decode cX1_split 63 = .ok (.iload 4, 2) := by decide +kernel
theorem dX1_split_65 : decode cX1_split 65 = .ok (.aload_n 0, 1) := by decide +kernel
theorem dX1_split_66 : decode cX1_split 66 = .ok (.getfield 24, 3) := by decide +kernel
theorem dX1_split_69 : decode cX1_split 69 = .ok (.iload 4, 2) := by decide +kernel
theorem dX1_split_71 : decode cX1_split 71 = .ok (.iconst 1, 1) := by decide +kernel
theorem dX1_split_72 : decode cX1_split 72 = .ok (.isub, 1) := by decide +kernel
theorem dX1_split_73 : decode cX1_split 73 = .ok (.iaload, 1) := by decide +kernel
theorem dX1_split_74 : decode cX1_split 74 = .ok (.iastore, 1) := by decide +kernel
theorem dX1_split_75 : decode cX1_split 75 = .ok (.iinc 4 (-1), 3) := by decide +kernel
theorem dX1_split_78 : decode cX1_split 78 = .ok (.goto (-27), 3) := by decide +kernel
theorem dX1_split_81 : decode cX1_split 81 = .ok (.aload_n 0, 1) := by decide +kernel
theorem dX1_split_82 : decode cX1_split 82 = .ok (.getfield 24, 3) := by decide +kernel
theorem dX1_split_85 : decode cX1_split 85 = .ok (.iload_n 1, 1) := by decide +kernel
theorem dX1_split_86 : decode cX1_split 86 = .ok (.iconst 1, 1) := by decide +kernel
theorem dX1_split_87 : decode cX1_split 87 = .ok (.iadd, 1) := by decide +kernel
theorem dX1_split_88 : decode cX1_split 88 = .ok (.iload_n 2, 1) := by decide +kernel
theorem dX1_split_89 : decode cX1_split 89 = .ok (.iastore, 1) := by decide +kernel
theorem dX1_split_90 : decode cX1_split 90 = .ok (.aload_n 0, 1) := by decide +kernel
theorem dX1_split_91 : decode cX1_split 91 = .ok (.dup, 1) := by decide +kernel
theorem dX1_split_92 : decode cX1_split 92 = .ok (.getfield 34, 3) := by decide +kernel
theorem dX1_split_95 : decode cX1_split 95 = .ok (.iconst 1, 1) := by decide +kernel
theorem dX1_split_96 : decode cX1_split 96 = .ok (.iadd, 1) := by decide +kernel
theorem dX1_split_97 : decode cX1_split 97 = .ok (.putfield 34, 3) := by decide +kernel
theorem dX1_split_100 : decode cX1_split 100 = .ok (.return_, 1) := by decide +kernel
end
section
theorem dX2_init_0 : decode cX2_init 0 = .ok (.aload_n 0, 1) := by decide +kernel
theorem dX2_init_1 : decode cX2_init 1 = .ok (.invokespecial 1, 3) := by decide +kernel
theorem dX2_init_4 : decode cX2_init 4 = .ok (.aload_n 0, 1) := by decide +kernel
theorem dX2_init_5 : decode cX2_init 5 = .ok (.bipush 90, 2) := by decide +kernel
theorem dX2_init_7 : decode cX2_init 7 = .ok (.newarray .int, 2) := by decide +kernel
theorem dX2_init_9 : decode cX2_init 9 = .ok (.putfield 9, 3) := by decide +kernel
theorem dX2_init_12 : decode cX2_init 12 = .ok (.aload_n 0, 1) := by decide +kernel
theorem dX2_init_13 : decode cX2_init 13 = .ok (.bipush 72, 2) := by decide +kernel
theorem dX2_init_15 : decode cX2_init 15 = .ok (.newarray .boolean, 2) := by decide +kernel
theorem dX2_init_17 : decode cX2_init 17 = .ok (.putfield 13, 3) := by decide +kernel
theorem dX2_init_20 : decode cX2_init 20 = .ok (.aload_n 0, 1) := by decide +kernel
theorem dX2_init_21 : decode cX2_init 21 = .ok (.new 17, 3) := by decide +kernel
theorem dX2_init_24 : decode cX2_init 24 = .ok (.dup, 1) := by decide +kernel
theorem dX2_init_25 : decode cX2_init 25 = .ok (.invokespecial 19, 3) := by decide +kernel
theorem dX2_init_28 : decode cX2_init 28 = .ok (.putfield 20, 3) := by decide +kernel
theorem dX2_init_31 : decode cX2_init 31 = .ok (.aload_n 0, 1) := by decide +kernel
theorem dX2_init_32 : decode cX2_init 32 = .ok (.bipush 6, 2) := by decide +kernel
theorem dX2_init_34 : decode cX2_init 34 = .ok (.anewarray 17, 3) := by decide +kernel
theorem dX2_init_37 : decode cX2_init 37 = .ok (.putfield 24, 3) := by decide +kernel
theorem dX2_init_40 : decode cX2_init 40 = .ok (.iconst 0, 1) := by decide +kernel
theorem dX2_init_41 : decode cX2_init 41 = .ok (.istore_n 1, 1) := by decide +kernel
theorem dX2_init_42 : decode cX2_init 42 = .ok (.iload_n 1, 1) := by decide +kernel
theorem dX2_init_43 : decode cX2_init 43 = .ok (.bipush 6, 2) := by decide +kernel
theorem dX2_init_45 : decode cX2_init 45 = .ok (.if_icmp .ge 22, 3) := by decide +kernel
theorem dX2_init_48 : decode cX2_init 48 = .ok (.aload_n 0, 1) := by decide +kernel
theorem dX2_init_49 : decode cX2_init 49 = .ok (.getfield 24, 3) := by decide +kernel
theorem dX2_init_52 : decode cX2_init 52 = .ok (.iload_n 1, 1) := by decide +kernel
theorem dX2_init_53 : decode cX2_init 53 = .ok (.new 17, 3) := by decide +kernel
theorem dX2_init_56 : decode cX2_init 56 = .ok (.dup, 1) := by decide +kernel
theorem dX2_init_57 : decode cX2_init 57 = .ok (.invokespecial 19, 3) := by decide +kernel
theorem dX2_init_60 : decode cX2_init 60 = .ok (.aastore, 1) := by decide +kernel
theorem dX2_init_61 : decode cX2_init 61 = .ok (.iinc 1 1, 3) := by decide +kernel
theorem dX2_init_64 : decode cX2_init 64 = .ok (.goto (-22), 3) := by decide +kernel
theorem dX2_init_67 : decode cX2_init 67 = .ok (.aload_n 0, 1) := by decide +kernel
theorem dX2_init_68 : decode cX2_init 68 = .ok (.iconst 2, 1) := by decide +kernel
theorem dX2_init_69 : decode cX2_init 69 = .ok (.anewarray 17, 3) := by decide +kernel
theorem dX2_init_72 : decode cX2_init 72 = .ok (.putfield 28, 3) := by decide +kernel
theorem dX2_init_75 : decode cX2_init 75 = .ok (.iconst 0, 1) := by decide +kernel
theorem dX2_init_76 : decode cX2_init 76 = .ok (.istore_n 1, 1) := by decide +kernel
theorem dX2_init_77 : decode cX2_init 77 = .ok (.iload_n 1, 1) := by decide +kernel
theorem dX2_init_78 : decode cX2_init 78 = .ok (.iconst 2, 1) := by decide +kernel
theorem dX2_init_79 : decode cX2_init 79 = .ok (.if_icmp .ge 22, 3) := by decide +kernel
theorem dX2_init_82 : decode cX2_init 82 = .ok (.aload_n 0, 1) := by decide +kernel
theorem dX2_init_83 : decode cX2_init 83 = .ok (.getfield 28, 3) := by decide +kernel
theorem dX2_init_86 : decode cX2_init 86 = .ok (.iload_n 1, 1) := by decide +kernel
theorem dX2_init_87 : decode cX2_init 87 = .ok (.new 17, 3) := by decide +kernel
theorem dX2_init_90 : decode cX2_init 90 = .ok (.dup, 1) := by decide +kernel
theorem dX2_init_91 : decode cX2_init 91 = .ok (.invokespecial 19, 3) := by decide +kernel
theorem dX2_init_94 : decode cX2_init 94 = .ok (.aastore, 1) := by decide +kernel
theorem dX2_init_95 : decode cX2_init 95 = .ok (.iinc 1 1, 3) := by decide +kernel
theorem dX2_init_98 : decode cX2_init 98 = .ok (.goto (-21), 3) := by decide +kernel
theorem dX2_init_101 : decode cX2_init 101 = .ok (.aload_n 0, 1) := by decide +kernel
theorem dX2_init_102 : decode cX2_init 102 = .ok (.iconst 2, 1) := by decide +kernel
theorem dX2_init_103 : decode cX2_init 103 = .ok (.newarray .boolean, 2) := by decide +kernel
theorem dX2_init_105 : decode cX2_init 105 = .ok (.putfield 31, 3) := by decide +kernel
theorem dX2_init_108 : decode cX2_init 108 = .ok (.aload_n 0, 1) := by decide +kernel
theorem dX2_init_109 : decode cX2_init 109 = .ok (.new 17, 3) := by decide +kernel
theorem dX2_init_112 : decode cX2_init 112 = .ok (.dup, 1) := by decide +kernel
theorem dX2_init_113 : decode cX2_init 113 = .ok (.invokespecial 19, 3) := by decide +kernel
theorem dX2_init_116 : decode cX2_init 116 = .ok (.putfield 34, 3) := by decide +kernel
theorem dX2_init_119 : decode cX2_init 119 = .ok (.aload_n 0, 1) := by decide +kernel
theorem dX2_init_120 : decode cX2_init 120 = .ok (.new 17, 3) := by decide +kernel
theorem dX2_init_123 : decode cX2_init 123 = .ok (.dup, 1) := by decide +kernel
theorem dX2_init_124 : decode cX2_init 124 = .ok (.invokespecial 19, 3) := by decide +kernel
theorem dX2_init_127 : decode cX2_init 127 = .ok (.putfield 37, 3) := by decide +kernel
theorem dX2_init_130 : decode cX2_init 130 = .ok (.return_, 1) := by decide +kernel
theorem dX2_append_0 : decode cX2_append 0 = .ok (.iload_n 1, 1) := by decide +kernel
theorem dX2_append_1 : decode cX2_append 1 = .ok (.ifCond .lt 10, 3) := by decide +kernel
theorem dX2_append_4 : decode cX2_append 4 = .ok (.iload_n 1, 1) := by decide +kernel
theorem dX2_append_5 : decode cX2_append 5 = .ok (.sipush 255, 3) := by decide +kernel
theorem dX2_append_8 : decode cX2_append 8 = .ok (.if_icmp .le 5, 3) := by decide +kernel
theorem dX2_append_11 : decode cX2_append 11 = .ok (.iconst (-1), 1) := by decide +kernel
theorem dX2_append_12 : decode cX2_append 12 = .ok (.ireturn, 1) := by decide +kernel
theorem dX2_append_13 : decode cX2_append 13 = .ok (.aload_n 0, 1) := by decide +kernel
theorem dX2_append_14 : decode cX2_append 14 = .ok (.getfield 40, 3) := by decide +kernel
theorem dX2_append_17 : decode cX2_append 17 = .ok (.bipush 90, 2) := by decide +kernel
theorem dX2_append_19 : decode cX2_append 19 = .ok (.if_icmp .lt 6, 3) := by decide +kernel
theorem dX2_append_22 : decode cX2_append 22 = .ok (.bipush (-3), 2) := by decide +kernel
theorem dX2_append_24 : decode cX2_append 24 = .ok (.ireturn, 1) := by decide +kernel
theorem dX2_append_25 : decode cX2_append 25 = .ok (.aload_n 0, 1) := by decide +kernel
theorem dX2_append_26 : decode cX2_append 26 = .ok (.getfield 9, 3) := by decide +kernel
theorem dX2_append_29 : decode cX2_append 29 = .ok (.aload_n 0, 1) := by decide +kernel
theorem dX2_append_30 : decode cX2_append 30 = .ok (.getfield 40, 3) := by decide +kernel
theorem dX2_append_33 : decode cX2_append 33 = .ok (.iload_n 1, 1) := by decide +kernel
theorem dX2_append_34 : decode cX2_append 34 = .ok (.iastore, 1) := by decide +kernel
theorem dX2_append_35 : decode cX2_append 35 = .ok (.aload_n 0, 1) := by decide +kernel
theorem dX2_append_36 : decode cX2_append 36 = .ok (.dup, 1) := by decide +kernel
theorem dX2_append_37 : decode cX2_append 37 = .ok (.getfield 40, 3) := by decide +kernel
theorem dX2_append_40 : decode cX2_append 40 = .ok (.iconst 1, 1) := by decide +kernel
theorem dX2_append_41 : decode cX2_append 41 = .ok (.iadd, 1) := by decide +kernel
theorem dX2_append_42 : decode cX2_append 42 = .ok (.putfield 40, 3) := by decide +kernel
theorem dX2_append_45 : decode cX2_append 45 = .ok (.aload_n 0, 1) := by decide +kernel
theorem dX2_append_46 : decode cX2_append 46 = .ok (.getfield 40, 3) := by decide +kernel
theorem dX2_append_49 : decode cX2_append 49 = .ok (.ireturn, 1) := by decide +kernel
theorem dX2_clearText_0 : decode cX2_clearText 0 = .ok (.aload_n 0, 1) := by decide +kernel
theorem dX2_clearText_1 : decode cX2_clearText 1 = .ok (.getfield 40, 3) := by decide +kernel
theorem dX2_clearText_4 : decode cX2_clearText 4 = .ok (.istore_n 1, 1) := by decide +kernel
theorem dX2_clearText_5 : decode cX2_clearText 5 = .ok (.aload_n 0, 1) := by decide +kernel
theorem dX2_clearText_6 : decode cX2_clearText 6 = .ok (.iconst 0, 1) := by decide +kernel
theorem dX2_clearText_7 : decode cX2_clearText 7 = .ok (.putfield 40, 3) := by decide +kernel
theorem dX2_clearText_10 : decode cX2_clearText 10 = .ok (.iload_n 1, 1) := by decide +kernel
theorem dX2_clearText_11 : decode cX2_clearText 11 = .ok (.ireturn, 1) := by decide +kernel
theorem dX2_load_0 : decode cX2_load 0 = .ok (.aload_n 0, 1) := by decide +kernel
theorem dX2_load_1 : decode cX2_load 1 = .ok (.invokevirtual 44, 3) := by decide +kernel
theorem dX2_load_4 : decode cX2_load 4 = .ok (.istore_n 1, 1) := by decide +kernel
theorem dX2_load_5 : decode cX2_load 5 = .ok (.iload_n 1, 1) := by decide +kernel
theorem dX2_load_6 : decode cX2_load 6 = .ok (.bipush (-9), 2) := by decide +kernel
theorem dX2_load_8 : decode cX2_load 8 = .ok (.if_icmp .eq 8, 3) := by decide +kernel
theorem dX2_load_11 : decode cX2_load 11 = .ok (.bipush (-10), 2) := by decide +kernel
theorem dX2_load_13 : decode cX2_load 13 = .ok (.iload_n 1, 1) := by decide +kernel
theorem dX2_load_14 : decode cX2_load 14 = .ok (.isub, 1) := by decide +kernel
theorem dX2_load_15 : decode cX2_load 15 = .ok (.ireturn, 1) := by decide +kernel
theorem dX2_load_16 : decode cX2_load 16 = .ok (.aload_n 0, 1) := by decide +kernel
theorem dX2_load_17 : decode cX2_load 17 = .ok (.invokevirtual 48, 3) := by decide +kernel
theorem dX2_load_20 : decode cX2_load 20 = .ok (.aload_n 0, 1) := by decide +kernel
theorem dX2_load_21 : decode cX2_load 21 = .ok (.invokevirtual 51, 3) := by decide +kernel
theorem dX2_load_24 : decode cX2_load 24 = .ok (.aload_n 0, 1) := by decide +kernel
theorem dX2_load_25 : decode cX2_load 25 = .ok (.iconst 0, 1) := by decide +kernel
theorem dX2_load_26 : decode cX2_load 26 = .ok (.putfield 40, 3) := by decide +kernel
theorem dX2_load_29 : decode cX2_load 29 = .ok (.aload_n 0, 1) := by decide +kernel
theorem dX2_load_30 : decode cX2_load 30 = .ok (.getfield 20, 3) := by decide +kernel
theorem dX2_load_33 : decode cX2_load 33 = .ok (.iconst 0, 1) := by decide +kernel
theorem dX2_load_34 : decode cX2_load 34 = .ok (.putfield 54, 3) := by decide +kernel
theorem dX2_load_37 : decode cX2_load 37 = .ok (.aload_n 0, 1) := by decide +kernel
theorem dX2_load_38 : decode cX2_load 38 = .ok (.getfield 20, 3) := by decide +kernel
theorem dX2_load_41 : decode cX2_load 41 = .ok (.invokevirtual 57, 3) := by decide +kernel
theorem dX2_load_44 : decode cX2_load 44 = .ok (.aload_n 0, 1) := by decide +kernel
theorem dX2_load_45 : decode cX2_load 45 = .ok (.getfield 20, 3) := by decide +kernel
theorem dX2_load_48 : decode cX2_load 48 = .ok (.invokevirtual 60, 3) := by decide +kernel
theorem dX2_load_51 : decode cX2_load 51 = .ok (.ireturn, 1) := by decide +kernel
theorem dX2_rewind_0 : decode cX2_rewind 0 = .ok (.aload_n 0, 1) := by decide +kernel
theorem dX2_rewind_1 : decode cX2_rewind 1 = .ok (.getfield 20, 3) := by decide +kernel
theorem dX2_rewind_4 : decode cX2_rewind 4 = .ok (.getfield 63, 3) := by decide +kernel
theorem dX2_rewind_7 : decode cX2_rewind 7 = .ok (.istore_n 1, 1) := by decide +kernel
theorem dX2_rewind_8 : decode cX2_rewind 8 = .ok (.aload_n 0, 1) := by decide +kernel
theorem dX2_rewind_9 : decode cX2_rewind 9 = .ok (.invokevirtual 48, 3) := by decide +kernel
theorem dX2_rewind_12 : decode cX2_rewind 12 = .ok (.aload_n 0, 1) := by decide +kernel
theorem dX2_rewind_13 : decode cX2_rewind 13 = .ok (.getfield 20, 3) := by decide +kernel
theorem dX2_rewind_16 : decode cX2_rewind 16 = .ok (.invokevirtual 57, 3) := by decide +kernel
theorem dX2_rewind_19 : decode cX2_rewind 19 = .ok (.iload_n 1, 1) := by decide +kernel
theorem dX2_rewind_20 : decode cX2_rewind 20 = .ok (.ireturn, 1) := by decide +kernel
theorem dX2_feed_0 : decode cX2_feed 0 = .ok (.aload_n 0, 1) := by decide +kernel
theorem dX2_feed_1 : decode cX2_feed 1 = .ok (.getfield 20, 3) := by decide +kernel
theorem dX2_feed_4 : decode cX2_feed 4 = .ok (.getfield 54, 3) := by decide +kernel
theorem dX2_feed_7 : decode cX2_feed 7 = .ok (.bipush 16, 2) := by decide +kernel
theorem dX2_feed_9 : decode cX2_feed 9 = .ok (.if_icmp .lt 6, 3) := by decide +kernel
theorem dX2_feed_12 : decode cX2_feed 12 = .ok (.bipush (-3), 2) := by decide +kernel
theorem dX2_feed_14 : decode cX2_feed 14 = .ok (.ireturn, 1) := by decide +kernel
theorem dX2_feed_15 : decode cX2_feed 15 = .ok (.aload_n 0, 1) := by decide +kernel
theorem dX2_feed_16 : decode cX2_feed 16 = .ok (.invokevirtual 48, 3) := by decide +kernel
theorem dX2_feed_19 : decode cX2_feed 19 = .ok (.aload_n 0, 1) := by decide +kernel
theorem dX2_feed_20 : decode cX2_feed 20 = .ok (.getfield 20, 3) := by decide +kernel
theorem dX2_feed_23 : decode cX2_feed 23 = .ok (.iload_n 1, 1) := by decide +kernel
theorem dX2_feed_24 : decode cX2_feed 24 = .ok (.invokevirtual 66, 3) := by decide +kernel
theorem dX2_feed_27 : decode cX2_feed 27 = .ok (.aload_n 0, 1) := by decide +kernel
theorem dX2_feed_28 : decode cX2_feed 28 = .ok (.getfield 20, 3) := by decide +kernel
theorem dX2_feed_31 : decode cX2_feed 31 = .ok (.getfield 54, 3) := by decide +kernel
theorem dX2_feed_34 : decode cX2_feed 34 = .ok (.ireturn, 1) := by decide +kernel
theorem dX2_poke_0 : decode cX2_poke 0 = .ok (.iload_n 1, 1) := by decide +kernel
theorem dX2_poke_1 : decode cX2_poke 1 = .ok (.iload_n 2, 1) := by decide +kernel
theorem dX2_poke_2 : decode cX2_poke 2 = .ok (.invokestatic 70, 3) := by decide +kernel
theorem dX2_poke_5 : decode cX2_poke 5 = .ok (.ifCond .eq 10, 3) := by decide +kernel
theorem dX2_poke_8 : decode cX2_poke 8 = .ok (.iload_n 3, 1) := by decide +kernel
theorem dX2_poke_9 : decode cX2_poke 9 = .ok (.invokestatic 74, 3) := by decide +kernel
theorem dX2_poke_12 : decode cX2_poke 12 = .ok (.ifCond .ne 5, 3) := by decide +kernel
theorem dX2_poke_15 : decode cX2_poke 15 = .ok (.iconst (-1), 1) := by decide +kernel
theorem dX2_poke_16 : decode cX2_poke 16 = .ok (.ireturn, 1) := by decide +kernel
theorem dX2_poke_17 : decode cX2_poke 17 = .ok (.aload_n 0, 1) := by decide +kernel
theorem dX2_poke_18 : decode cX2_poke 18 = .ok (.invokevirtual 48, 3) := by decide +kernel
theorem dX2_poke_21 : decode cX2_poke 21 = .ok (.bipush 12, 2) := by decide +kernel
theorem dX2_poke_23 : decode cX2_poke 23 = .ok (.iload_n 2, 1) := by decide +kernel
theorem dX2_poke_24 : decode cX2_poke 24 = .ok (.imul, 1) := by decide +kernel
theorem dX2_poke_25 : decode cX2_poke 25 = .ok (.iload_n 1, 1) := by decide +kernel
theorem dX2_poke_26 : decode cX2_poke 26 = .ok (.iadd, 1) := by decide +kernel
theorem dX2_poke_27 : decode cX2_poke 27 = .ok (.istore 4, 2) := by decide +kernel
theorem dX2_poke_29 : decode cX2_poke 29 = .ok (.aload_n 0, 1) := by decide +kernel
theorem dX2_poke_30 : decode cX2_poke 30 = .ok (.getfield 20, 3) := by decide +kernel
theorem dX2_poke_33 : decode cX2_poke 33 = .ok (.getfield 78, 3) := by decide +kernel
theorem dX2_poke_36 : decode cX2_poke 36 = .ok (.iload 4, 2) := by decide +kernel
theorem dX2_poke_38 : decode cX2_poke 38 = .ok (.iaload, 1) := by decide +kernel
theorem dX2_poke_39 : decode cX2_poke 39 = .ok (.istore 5, 2) := by decide +kernel
theorem dX2_poke_41 : decode cX2_poke 41 = .ok (.aload_n 0, 1) := by decide +kernel
theorem dX2_poke_42 : decode cX2_poke 42 = .ok (.getfield 20, 3) := by decide +kernel
theorem dX2_poke_45 : decode cX2_poke 45 = .ok (.getfield 78, 3) := by decide +kernel
theorem dX2_poke_48 : decode cX2_poke 48 = .ok (.iload 4, 2) := by decide +kernel
theorem dX2_poke_50 : decode cX2_poke 50 = .ok (.iload_n 3, 1) := by decide +kernel
theorem dX2_poke_51 : decode cX2_poke 51 = .ok (.iastore, 1) := by decide +kernel
theorem dX2_poke_52 : decode cX2_poke 52 = .ok (.iload 5, 2) := by decide +kernel
theorem dX2_poke_54 : decode cX2_poke 54 = .ok (.ireturn, 1) := by decide +kernel
theorem dX2_tick_0 : decode cX2_tick 0 = .ok (.aload_n 0, 1) := by decide +kernel
theorem dX2_tick_1 : decode cX2_tick 1 = .ok (.iload_n 1, 1) := by decide +kernel
theorem dX2_tick_2 : decode cX2_tick 2 = .ok (.iconst 0, 1) := by decide +kernel
theorem dX2_tick_3 : decode cX2_tick 3 = .ok (.invokevirtual 81, 3) := by decide +kernel
theorem dX2_tick_6 : decode cX2_tick 6 = .ok (.ireturn, 1) := by decide +kernel
theorem dX2_run_0 : decode cX2_run 0 = .ok (.aload_n 0, 1) := by decide +kernel
theorem dX2_run_1 : decode cX2_run 1 = .ok (.iload_n 1, 1) := by decide +kernel
theorem dX2_run_2 : decode cX2_run 2 = .ok (.iconst 1, 1) := by decide +kernel
theorem dX2_run_3 : decode cX2_run 3 = .ok (.invokevirtual 81, 3) := by decide +kernel
theorem dX2_run_6 : decode cX2_run 6 = .ok (.ireturn, 1) := by decide +kernel
theorem dX2_setBreakpoint_0 : decode cX2_setBreakpoint 0 = .ok (.iload_n 1, 1) := by decide +kernel
theorem dX2_setBreakpoint_1 : decode cX2_setBreakpoint 1 = .ok (.iload_n 2, 1) := by decide +kernel
theorem dX2_setBreakpoint_2 : decode cX2_setBreakpoint 2 = .ok (.invokestatic 70, 3) := by decide +kernel
theorem dX2_setBreakpoint_5 : decode cX2_setBreakpoint 5 = .ok (.ifCond .eq 12, 3) := by decide +kernel
theorem dX2_setBreakpoint_8 : decode cX2_setBreakpoint 8 = .ok (.iload_n 3, 1) := by decide +kernel
theorem dX2_setBreakpoint_9 : decode cX2_setBreakpoint 9 = .ok (.ifCond .lt 8, 3) := by decide +kernel
theorem dX2_setBreakpoint_12 : decode cX2_setBreakpoint 12 = .ok (.iload_n 3, 1) := by decide +kernel
theorem dX2_setBreakpoint_13 : decode cX2_setBreakpoint 13 = .ok (.iconst 1, 1) := by decide +kernel
theorem dX2_setBreakpoint_14 : decode cX2_setBreakpoint 14 = .ok (.if_icmp .le 5, 3) := by decide +kernel
theorem dX2_setBreakpoint_17 : decode cX2_setBreakpoint 17 = .ok (.iconst (-1), 1) := by decide +kernel
theorem dX2_setBreakpoint_18 : decode cX2_setBreakpoint 18 = .ok (.ireturn, 1) := by decide +kernel
theorem dX2_setBreakpoint_19 : decode cX2_setBreakpoint 19 = .ok (.bipush 12, 2) := by decide +kernel
theorem dX2_setBreakpoint_21 : decode cX2_setBreakpoint 21 = .ok (.iload_n 2, 1) := by decide +kernel
theorem dX2_setBreakpoint_22 : decode cX2_setBreakpoint 22 = .ok (.imul, 1) := by decide +kernel
theorem dX2_setBreakpoint_23 : decode cX2_setBreakpoint 23 = .ok (.iload_n 1, 1) := by decide +kernel
theorem dX2_setBreakpoint_24 : decode cX2_setBreakpoint 24 = .ok (.iadd, 1) := by decide +kernel
theorem dX2_setBreakpoint_25 : decode cX2_setBreakpoint 25 = .ok (.istore 4, 2) := by decide +kernel
theorem dX2_setBreakpoint_27 : decode cX2_setBreakpoint 27 = .ok (.iload_n 3, 1) := by decide +kernel
theorem dX2_setBreakpoint_28 : decode cX2_setBreakpoint 28 = .ok (.iconst 1, 1) := by decide +kernel
theorem dX2_setBreakpoint_29 : decode cX2_setBreakpoint 29 = .ok (.if_icmp .ne 7, 3) := by decide +kernel
theorem dX2_setBreakpoint_32 : decode cX2_setBreakpoint 32 = .ok (.iconst 1, 1) := by decide +kernel
theorem dX2_setBreakpoint_33 : decode cX2_setBreakpoint 33 = .ok (.goto 4, 3) := by decide +kernel
theorem dX2_setBreakpoint_36 : decode cX2_setBreakpoint 36 = .ok (.iconst 0, 1) := by decide +kernel
theorem dX2_setBreakpoint_37 : decode cX2_setBreakpoint 37 = .ok (.istore 5, 2) := by decide +kernel
theorem dX2_setBreakpoint_39 : decode cX2_setBreakpoint 39 = .ok (.aload_n 0, 1) := by decide +kernel
theorem dX2_setBreakpoint_40 : decode cX2_setBreakpoint 40 = .ok (.getfield 13, 3) := by decide +kernel
theorem dX2_setBreakpoint_43 : decode cX2_setBreakpoint 43 = .ok (.iload 4, 2) := by decide +kernel
theorem dX2_setBreakpoint_45 : decode cX2_setBreakpoint 45 = .ok (.baload, 1) := by decide +kernel
theorem dX2_setBreakpoint_46 : decode cX2_setBreakpoint 46 = .ok (.iload 5, 2) := by decide +kernel
theorem dX2_setBreakpoint_48 : decode cX2_setBreakpoint 48 = .ok (.if_icmp .ne 6, 3) := by decide +kernel
theorem dX2_setBreakpoint_51 : decode cX2_setBreakpoint 51 = .ok (.bipush (-2), 2) := by decide +kernel
theorem dX2_setBreakpoint_53 : decode cX2_setBreakpoint 53 = .ok (.ireturn, 1) := by decide +kernel
theorem dX2_setBreakpoint_54 : decode cX2_setBreakpoint 54 = .ok (.aload_n 0, 1) := by decide +kernel
theorem dX2_setBreakpoint_55 : decode cX2_setBreakpoint 55 = .ok (.getfield 13, 3) := by decide +kernel
theorem dX2_setBreakpoint_58 : decode cX2_setBreakpoint 58 = .ok (.iload 4, 2) := by decide +kernel
theorem dX2_setBreakpoint_60 : decode cX2_setBreakpoint 60 = .ok (.iload 5, 2) := by decide +kernel
theorem dX2_setBreakpoint_62 : decode cX2_setBreakpoint 62 = .ok (.bastore, 1) := by decide +kernel
theorem dX2_setBreakpoint_63 : decode cX2_setBreakpoint 63 = .ok (.aload_n 0, 1) := by decide +kernel
theorem dX2_setBreakpoint_64 : decode cX2_setBreakpoint 64 = .ok (.dup, 1) := by decide +kernel
theorem dX2_setBreakpoint_65 : decode cX2_setBreakpoint 65 = .ok (.getfield 85, 3) := by decide +kernel
theorem dX2_setBreakpoint_68 : decode cX2_setBreakpoint 68 = .ok (.iload 5, 2) := by decide +kernel
theorem dX2_setBreakpoint_70 : decode cX2_setBreakpoint 70 = .ok (.ifCond .eq 7, 3) := by decide +kernel
theorem dX2_setBreakpoint_73 : decode cX2_setBreakpoint 73 = .ok (.iconst 1, 1) := by decide +kernel
theorem dX2_setBreakpoint_74 : decode cX2_setBreakpoint 74 = .ok (.goto 4, 3) := by decide +kernel
theorem dX2_setBreakpoint_77 : decode cX2_setBreakpoint 77 = .ok (.iconst (-1), 1) := by decide +kernel
theorem dX2_setBreakpoint_78 : decode cX2_setBreakpoint 78 = .ok (.iadd, 1) := by decide +kernel
theorem dX2_setBreakpoint_79 : decode cX2_setBreakpoint 79 = .ok (.putfield 85, 3) := by decide +kernel
theorem dX2_setBreakpoint_82 : decode cX2_setBreakpoint 82 = .ok (.aload_n 0, 1) := by decide +kernel
theorem dX2_setBreakpoint_83 : decode cX2_setBreakpoint 83 = .ok (.getfield 85, 3) := by decide +kernel
theorem dX2_setBreakpoint_86 : decode cX2_setBreakpoint 86 = .ok (.ireturn, 1) := by decide +kernel
theorem dX2_undo_0 : decode cX2_undo 0 = .ok (.aload_n 0, 1) := by decide +kernel
theorem dX2_undo_1 : decode cX2_undo 1 = .ok (.getfield 88, 3) := by decide +kernel
theorem dX2_undo_4 : decode cX2_undo 4 = .ok (.ifCond .gt 6, 3) := by decide +kernel
theorem dX2_undo_7 : decode cX2_undo 7 = .ok (.bipush (-2), 2) := by decide +kernel
theorem dX2_undo_9 : decode cX2_undo 9 = .ok (.ireturn, 1) := by decide +kernel
theorem dX2_undo_10 : decode cX2_undo 10 = .ok (.aload_n 0, 1) := by decide +kernel
theorem dX2_undo_11 : decode cX2_undo 11 = .ok (.dup, 1) := by decide +kernel
theorem dX2_undo_12 : decode cX2_undo 12 = .ok (.getfield 88, 3) := by decide +kernel
theorem dX2_undo_15 : decode cX2_undo 15 = .ok (.iconst 1, 1) := by decide +kernel
theorem dX2_undo_16 : decode cX2_undo 16 = .ok (.isub, 1) := by decide +kernel
theorem dX2_undo_17 : decode cX2_undo 17 = .ok (.putfield 88, 3) := by decide +kernel
theorem dX2_undo_20 : decode cX2_undo 20 = .ok (.aload_n 0, 1) := by decide +kernel
theorem dX2_undo_21 : decode cX2_undo 21 = .ok (.getfield 20, 3) := by decide +kernel
theorem dX2_undo_24 : decode cX2_undo 24 = .ok (.aload_n 0, 1) := by decide +kernel
theorem dX2_undo_25 : decode cX2_undo 25 = .ok (.getfield 24, 3) := by decide +kernel
theorem dX2_undo_28 : decode cX2_undo 28 = .ok (.aload_n 0, 1) := by decide +kernel
theorem dX2_undo_29 : decode cX2_undo 29 = .ok (.getfield 88, 3) := by decide +kernel
theorem dX2_undo_32 : decode cX2_undo 32 = .ok (.aaload, 1) := by decide +kernel
theorem dX2_undo_33 : decode cX2_undo 33 = .ok (.invokevirtual 91, 3) := by decide +kernel
theorem dX2_undo_36 : decode cX2_undo 36 = .ok (.aload_n 0, 1) := by decide +kernel
theorem dX2_undo_37 : decode cX2_undo 37 = .ok (.getfield 88, 3) := by decide +kernel
theorem dX2_undo_40 : decode cX2_undo 40 = .ok (.ireturn, 1) := by decide +kernel
theorem dX2_ticksToHalt_0 : decode cX2_ticksToHalt 0 = .ok (.iload_n 1, 1) := by decide +kernel
theorem dX2_ticksToHalt_1 : decode cX2_ticksToHalt 1 = .ok (.invokestatic 95, 3) := by decide +kernel
theorem dX2_ticksToHalt_4 : decode cX2_ticksToHalt 4 = .ok (.ifCond .ne 5, 3) := by decide +kernel
theorem dX2_ticksToHalt_7 : decode cX2_ticksToHalt 7 = .ok (.iconst (-1), 1) := by decide +kernel
theorem dX2_ticksToHalt_8 : decode cX2_ticksToHalt 8 = .ok (.ireturn, 1) := by decide +kernel
theorem dX2_ticksToHalt_9 : decode cX2_ticksToHalt 9 = .ok (.aload_n 0, 1) := by decide +kernel
theorem dX2_ticksToHalt_10 : decode cX2_ticksToHalt 10 = .ok (.getfield 34, 3) := by decide +kernel
theorem dX2_ticksToHalt_13 : decode cX2_ticksToHalt 13 = .ok (.aload_n 0, 1) := by decide +kernel
theorem dX2_ticksToHalt_14 : decode cX2_ticksToHalt 14 = .ok (.getfield 20, 3) := by decide +kernel
theorem dX2_ticksToHalt_17 : decode cX2_ticksToHalt 17 = .ok (.invokevirtual 91, 3) := by decide +kernel
theorem dX2_ticksToHalt_20 : decode cX2_ticksToHalt 20 = .ok (.iconst 0, 1) := by decide +kernel
theorem dX2_ticksToHalt_21 : decode cX2_ticksToHalt 21 = .ok (.istore_n 2, 1) := by decide +kernel
theorem dX2_ticksToHalt_22 : decode cX2_ticksToHalt 22 = .ok (.iload_n 2, 1) := by decide +kernel
theorem dX2_ticksToHalt_23 : decode cX2_ticksToHalt 23 = .ok (.iload_n 1, 1) := by decide +kernel
theorem dX2_ticksToHalt_24 : decode cX2_ticksToHalt 24 = .ok (.if_icmp .ge 26, 3) := by decide +kernel
theorem dX2_ticksToHalt_27 : decode cX2_ticksToHalt 27 = .ok (.aload_n 0, 1) := by decide +kernel
theorem dX2_ticksToHalt_28 : decode cX2_ticksToHalt 28 = .ok (.getfield 34, 3) := by decide +kernel
theorem dX2_ticksToHalt_31 : decode cX2_ticksToHalt 31 = .ok (.invokevirtual 98, 3) := by decide +kernel
theorem dX2_ticksToHalt_34 : decode cX2_ticksToHalt 34 = .ok (.ifCond .ne 16, 3) := by decide +kernel
theorem dX2_ticksToHalt_37 : decode cX2_ticksToHalt 37 = .ok (.aload_n 0, 1) := by decide +kernel
theorem dX2_ticksToHalt_38 : decode cX2_ticksToHalt 38 = .ok (.getfield 34, 3) := by decide +kernel
theorem dX2_ticksToHalt_41 : decode cX2_ticksToHalt 41 = .ok (.invokevirtual 102, 3) := by decide +kernel
theorem dX2_ticksToHalt_44 : decode cX2_ticksToHalt 44 = .ok (.iinc 2 1, 3) := by decide +kernel
theorem dX2_ticksToHalt_47 : decode cX2_ticksToHalt 47 = .ok (.goto (-25), 3) := by decide +kernel
theorem dX2_ticksToHalt_50 : decode cX2_ticksToHalt 50 = .ok (.aload_n 0, 1) := by decide +kernel
theorem dX2_ticksToHalt_51 : decode cX2_ticksToHalt 51 = .ok (.getfield 34, 3) := by decide +kernel
theorem dX2_ticksToHalt_54 : decode cX2_ticksToHalt 54 = .ok (.invokevirtual 98, 3) := by decide +kernel
theorem dX2_ticksToHalt_57 : decode cX2_ticksToHalt 57 = .ok (.ifCond .eq 7, 3) := by decide +kernel
theorem dX2_ticksToHalt_60 : decode cX2_ticksToHalt 60 = .ok (.iload_n 2, 1) := by decide +kernel
theorem dX2_ticksToHalt_61 : decode cX2_ticksToHalt 61 = .ok (.goto 5, 3) := by decide +kernel
theorem dX2_ticksToHalt_64 : decode cX2_ticksToHalt 64 = .ok (.bipush (-9), 2) := by decide +kernel
theorem dX2_ticksToHalt_66 : decode cX2_ticksToHalt 66 = .ok (.ireturn, 1) := by decide +kernel
theorem dX2_cycleStart_0 : decode cX2_cycleStart 0 = .ok (.iload_n 1, 1) := by decide +kernel
theorem dX2_cycleStart_1 : decode cX2_cycleStart 1 = .ok (.invokestatic 95, 3) := by decide +kernel
theorem dX2_cycleStart_4 : decode cX2_cycleStart 4 = .ok (.ifCond .ne 5, 3) := by decide +kernel
theorem dX2_cycleStart_7 : decode cX2_cycleStart 7 = .ok (.iconst (-1), 1) := by decide +kernel
theorem dX2_cycleStart_8 : decode cX2_cycleStart 8 = .ok (.ireturn, 1) := by decide +kernel
theorem dX2_cycleStart_9 : decode cX2_cycleStart 9 = .ok (.aload_n 0, 1) := by decide +kernel
theorem dX2_cycleStart_10 : decode cX2_cycleStart 10 = .ok (.iload_n 1, 1) := by decide +kernel
theorem dX2_cycleStart_11 : decode cX2_cycleStart 11 = .ok (.invokevirtual 105, 3) := by decide +kernel
theorem dX2_cycleStart_14 : decode cX2_cycleStart 14 = .ok (.istore_n 2, 1) := by decide +kernel
theorem dX2_cycleStart_15 : decode cX2_cycleStart 15 = .ok (.iload_n 2, 1) := by decide +kernel
theorem dX2_cycleStart_16 : decode cX2_cycleStart 16 = .ok (.bipush (-9), 2) := by decide +kernel
theorem dX2_cycleStart_18 : decode cX2_cycleStart 18 = .ok (.if_icmp .ne 8, 3) := by decide +kernel
theorem dX2_cycleStart_21 : decode cX2_cycleStart 21 = .ok (.bipush (-9), 2) := by decide +kernel
theorem dX2_cycleStart_23 : decode cX2_cycleStart 23 = .ok (.goto 9, 3) := by decide +kernel
theorem dX2_cycleStart_26 : decode cX2_cycleStart 26 = .ok (.aload_n 0, 1) := by decide +kernel
theorem dX2_cycleStart_27 : decode cX2_cycleStart 27 = .ok (.iload_n 1, 1) := by decide +kernel
theorem dX2_cycleStart_28 : decode cX2_cycleStart 28 = .ok (.iload_n 2, 1) := by decide +kernel
theorem dX2_cycleStart_29 : decode cX2_cycleStart 29 = .ok (.invokevirtual 109, 3) := by decide +kernel
theorem dX2_cycleStart_32 : decode cX2_cycleStart 32 = .ok (.ireturn, 1) := by decide +kernel
theorem dX2_cycleLength_0 : decode cX2_cycleLength 0 = .ok (.iload_n 1, 1) := by decide +kernel
theorem dX2_cycleLength_1 : decode cX2_cycleLength 1 = .ok (.invokestatic 95, 3) := by decide +kernel
theorem dX2_cycleLength_4 : decode cX2_cycleLength 4 = .ok (.ifCond .ne 5, 3) := by decide +kernel
theorem dX2_cycleLength_7 : decode cX2_cycleLength 7 = .ok (.iconst (-1), 1) := by decide +kernel
theorem dX2_cycleLength_8 : decode cX2_cycleLength 8 = .ok (.ireturn, 1) := by decide +kernel
theorem dX2_cycleLength_9 : decode cX2_cycleLength 9 = .ok (.aload_n 0, 1) := by decide +kernel
theorem dX2_cycleLength_10 : decode cX2_cycleLength 10 = .ok (.iload_n 1, 1) := by decide +kernel
theorem dX2_cycleLength_11 : decode cX2_cycleLength 11 = .ok (.invokevirtual 105, 3) := by decide +kernel
theorem dX2_cycleLength_14 : decode cX2_cycleLength 14 = .ok (.istore_n 2, 1) := by decide +kernel
theorem dX2_cycleLength_15 : decode cX2_cycleLength 15 = .ok (.iload_n 2, 1) := by decide +kernel
theorem dX2_cycleLength_16 : decode cX2_cycleLength 16 = .ok (.bipush (-9), 2) := by decide +kernel
theorem dX2_cycleLength_18 : decode cX2_cycleLength 18 = .ok (.if_icmp .eq 14, 3) := by decide +kernel
theorem dX2_cycleLength_21 : decode cX2_cycleLength 21 = .ok (.aload_n 0, 1) := by decide +kernel
theorem dX2_cycleLength_22 : decode cX2_cycleLength 22 = .ok (.iload_n 1, 1) := by decide +kernel
theorem dX2_cycleLength_23 : decode cX2_cycleLength 23 = .ok (.iload_n 2, 1) := by decide +kernel
theorem dX2_cycleLength_24 : decode cX2_cycleLength 24 = .ok (.invokevirtual 109, 3) := by decide +kernel
theorem dX2_cycleLength_27 : decode cX2_cycleLength 27 = .ok (.bipush (-9), 2) := by decide +kernel
theorem dX2_cycleLength_29 : decode cX2_cycleLength 29 = .ok (.if_icmp .ne 6, 3) := by decide +kernel
theorem dX2_cycleLength_32 : decode cX2_cycleLength 32 = .ok (.bipush (-9), 2) := by decide +kernel
theorem dX2_cycleLength_34 : decode cX2_cycleLength 34 = .ok (.ireturn, 1) := by decide +kernel
theorem dX2_cycleLength_35 : decode cX2_cycleLength 35 = .ok (.iload_n 2, 1) := by decide +kernel
theorem dX2_cycleLength_36 : decode cX2_cycleLength 36 = .ok (.ireturn, 1) := by decide +kernel
theorem dX2_cellAt_0 : decode cX2_cellAt 0 = .ok (.iload_n 1, 1) := by decide +kernel
theorem dX2_cellAt_1 : decode cX2_cellAt 1 = .ok (.iload_n 2, 1) := by decide +kernel
theorem dX2_cellAt_2 : decode cX2_cellAt 2 = .ok (.invokestatic 70, 3) := by decide +kernel
theorem dX2_cellAt_5 : decode cX2_cellAt 5 = .ok (.ifCond .eq 20, 3) := by decide +kernel
theorem dX2_cellAt_8 : decode cX2_cellAt 8 = .ok (.aload_n 0, 1) := by decide +kernel
theorem dX2_cellAt_9 : decode cX2_cellAt 9 = .ok (.getfield 20, 3) := by decide +kernel
theorem dX2_cellAt_12 : decode cX2_cellAt 12 = .ok (.getfield 78, 3) := by decide +kernel
theorem dX2_cellAt_15 : decode cX2_cellAt 15 = .ok (.bipush 12, 2) := by decide +kernel
theorem dX2_cellAt_17 : decode cX2_cellAt 17 = .ok (.iload_n 2, 1) := by decide +kernel
theorem dX2_cellAt_18 : decode cX2_cellAt 18 = .ok (.imul, 1) := by decide +kernel
theorem dX2_cellAt_19 : decode cX2_cellAt 19 = .ok (.iload_n 1, 1) := by decide +kernel
theorem dX2_cellAt_20 : decode cX2_cellAt 20 = .ok (.iadd, 1) := by decide +kernel
theorem dX2_cellAt_21 : decode cX2_cellAt 21 = .ok (.iaload, 1) := by decide +kernel
theorem dX2_cellAt_22 : decode cX2_cellAt 22 = .ok (.goto 4, 3) := by decide +kernel
theorem dX2_cellAt_25 : decode cX2_cellAt 25 = .ok (.iconst (-1), 1) := by decide +kernel
theorem dX2_cellAt_26 : decode cX2_cellAt 26 = .ok (.ireturn, 1) := by decide +kernel
theorem dX2_changedCells_0 : decode cX2_changedCells 0 = .ok (.iconst 0, 1) := by decide +kernel
theorem dX2_changedCells_1 : decode cX2_changedCells 1 = .ok (.istore_n 1, 1) := by decide +kernel
theorem dX2_changedCells_2 : decode cX2_changedCells 2 = .ok (.iconst 0, 1) := by decide +kernel
theorem dX2_changedCells_3 : decode cX2_changedCells 3 = .ok (.istore_n 2, 1) := by decide +kernel
theorem dX2_changedCells_4 : decode cX2_changedCells 4 = .ok (.iload_n 2, 1) := by decide +kernel
theorem dX2_changedCells_5 : decode cX2_changedCells 5 = .ok (.bipush 72, 2) := by decide +kernel
theorem dX2_changedCells_7 : decode cX2_changedCells 7 = .ok (.if_icmp .ge 33, 3) := by decide +kernel
theorem dX2_changedCells_10 : decode cX2_changedCells 10 = .ok (.aload_n 0, 1) := by decide +kernel
theorem dX2_changedCells_11 : decode cX2_changedCells 11 = .ok (.getfield 20, 3) := by decide +kernel
theorem dX2_changedCells_14 : decode cX2_changedCells 14 = .ok (.getfield 78, 3) := by decide +kernel
theorem dX2_changedCells_17 : decode cX2_changedCells 17 = .ok (.iload_n 2, 1) := by decide +kernel
theorem dX2_changedCells_18 : decode cX2_changedCells 18 = .ok (.iaload, 1) := by decide +kernel
theorem dX2_changedCells_19 : decode cX2_changedCells 19 = .ok (.aload_n 0, 1) := by decide +kernel
theorem dX2_changedCells_20 : decode cX2_changedCells 20 = .ok (.getfield 20, 3) := by decide +kernel
theorem dX2_changedCells_23 : decode cX2_changedCells 23 = .ok (.getfield 113, 3) := by decide +kernel
theorem dX2_changedCells_26 : decode cX2_changedCells 26 = .ok (.iload_n 2, 1) := by decide +kernel
theorem dX2_changedCells_27 : decode cX2_changedCells 27 = .ok (.iaload, 1) := by decide +kernel
theorem dX2_changedCells_28 : decode cX2_changedCells 28 = .ok (.if_icmp .eq 6, 3) := by decide +kernel
theorem dX2_changedCells_31 : decode cX2_changedCells 31 = .ok (.iinc 1 1, 3) := by decide +kernel
theorem dX2_changedCells_34 : decode cX2_changedCells 34 = .ok (.iinc 2 1, 3) := by decide +kernel
theorem dX2_changedCells_37 : decode cX2_changedCells 37 = .ok (.goto (-33), 3) := by decide +kernel
theorem dX2_changedCells_40 : decode cX2_changedCells 40 = .ok (.iload_n 1, 1) := by decide +kernel
theorem dX2_changedCells_41 : decode cX2_changedCells 41 = .ok (.ireturn, 1) := by decide +kernel
theorem dX2_pointerCount_0 : decode cX2_pointerCount 0 = .ok (.aload_n 0, 1) := by decide +kernel
theorem dX2_pointerCount_1 : decode cX2_pointerCount 1 = .ok (.getfield 20, 3) := by decide +kernel
theorem dX2_pointerCount_4 : decode cX2_pointerCount 4 = .ok (.getfield 116, 3) := by decide +kernel
theorem dX2_pointerCount_7 : decode cX2_pointerCount 7 = .ok (.ireturn, 1) := by decide +kernel
theorem dX2_pointerAt_0 : decode cX2_pointerAt 0 = .ok (.aload_n 0, 1) := by decide +kernel
theorem dX2_pointerAt_1 : decode cX2_pointerAt 1 = .ok (.iload_n 1, 1) := by decide +kernel
theorem dX2_pointerAt_2 : decode cX2_pointerAt 2 = .ok (.invokevirtual 119, 3) := by decide +kernel
theorem dX2_pointerAt_5 : decode cX2_pointerAt 5 = .ok (.ifCond .eq 15, 3) := by decide +kernel
theorem dX2_pointerAt_8 : decode cX2_pointerAt 8 = .ok (.aload_n 0, 1) := by decide +kernel
theorem dX2_pointerAt_9 : decode cX2_pointerAt 9 = .ok (.getfield 20, 3) := by decide +kernel
theorem dX2_pointerAt_12 : decode cX2_pointerAt 12 = .ok (.getfield 122, 3) := by decide +kernel
theorem dX2_pointerAt_15 : decode cX2_pointerAt 15 = .ok (.iload_n 1, 1) := by decide +kernel
theorem dX2_pointerAt_16 : decode cX2_pointerAt 16 = .ok (.iaload, 1) := by decide +kernel
theorem dX2_pointerAt_17 : decode cX2_pointerAt 17 = .ok (.goto 4, 3) := by decide +kernel
theorem dX2_pointerAt_20 : decode cX2_pointerAt 20 = .ok (.iconst (-1), 1) := by decide +kernel
theorem dX2_pointerAt_21 : decode cX2_pointerAt 21 = .ok (.ireturn, 1) := by decide +kernel
theorem dX2_position_0 : decode cX2_position 0 = .ok (.aload_n 0, 1) := by decide +kernel
theorem dX2_position_1 : decode cX2_position 1 = .ok (.iload_n 1, 1) := by decide +kernel
theorem dX2_position_2 : decode cX2_position 2 = .ok (.invokevirtual 119, 3) := by decide +kernel
theorem dX2_position_5 : decode cX2_position 5 = .ok (.ifCond .eq 18, 3) := by decide +kernel
theorem dX2_position_8 : decode cX2_position 8 = .ok (.aload_n 0, 1) := by decide +kernel
theorem dX2_position_9 : decode cX2_position 9 = .ok (.getfield 20, 3) := by decide +kernel
theorem dX2_position_12 : decode cX2_position 12 = .ok (.getfield 125, 3) := by decide +kernel
theorem dX2_position_15 : decode cX2_position 15 = .ok (.iload_n 1, 1) := by decide +kernel
theorem dX2_position_16 : decode cX2_position 16 = .ok (.aaload, 1) := by decide +kernel
theorem dX2_position_17 : decode cX2_position 17 = .ok (.invokevirtual 129, 3) := by decide +kernel
theorem dX2_position_20 : decode cX2_position 20 = .ok (.goto 4, 3) := by decide +kernel
theorem dX2_position_23 : decode cX2_position 23 = .ok (.iconst (-1), 1) := by decide +kernel
theorem dX2_position_24 : decode cX2_position 24 = .ok (.ireturn, 1) := by decide +kernel
theorem dX2_direction_0 : decode cX2_direction 0 = .ok (.aload_n 0, 1) := by decide +kernel
theorem dX2_direction_1 : decode cX2_direction 1 = .ok (.iload_n 1, 1) := by decide +kernel
theorem dX2_direction_2 : decode cX2_direction 2 = .ok (.invokevirtual 119, 3) := by decide +kernel
theorem dX2_direction_5 : decode cX2_direction 5 = .ok (.ifCond .eq 18, 3) := by decide +kernel
theorem dX2_direction_8 : decode cX2_direction 8 = .ok (.aload_n 0, 1) := by decide +kernel
theorem dX2_direction_9 : decode cX2_direction 9 = .ok (.getfield 20, 3) := by decide +kernel
theorem dX2_direction_12 : decode cX2_direction 12 = .ok (.getfield 125, 3) := by decide +kernel
theorem dX2_direction_15 : decode cX2_direction 15 = .ok (.iload_n 1, 1) := by decide +kernel
theorem dX2_direction_16 : decode cX2_direction 16 = .ok (.aaload, 1) := by decide +kernel
theorem dX2_direction_17 : decode cX2_direction 17 = .ok (.getfield 134, 3) := by decide +kernel
theorem dX2_direction_20 : decode cX2_direction 20 = .ok (.goto 4, 3) := by decide +kernel
theorem dX2_direction_23 : decode cX2_direction 23 = .ok (.iconst (-1), 1) := by decide +kernel
theorem dX2_direction_24 : decode cX2_direction 24 = .ok (.ireturn, 1) := by decide +kernel
theorem dX2_status_0 : decode cX2_status 0 = .ok (.aload_n 0, 1) := by decide +kernel
theorem dX2_status_1 : decode cX2_status 1 = .ok (.iload_n 1, 1) := by decide +kernel
theorem dX2_status_2 : decode cX2_status 2 = .ok (.invokevirtual 119, 3) := by decide +kernel
theorem dX2_status_5 : decode cX2_status 5 = .ok (.ifCond .eq 18, 3) := by decide +kernel
theorem dX2_status_8 : decode cX2_status 8 = .ok (.aload_n 0, 1) := by decide +kernel
theorem dX2_status_9 : decode cX2_status 9 = .ok (.getfield 20, 3) := by decide +kernel
theorem dX2_status_12 : decode cX2_status 12 = .ok (.getfield 125, 3) := by decide +kernel
theorem dX2_status_15 : decode cX2_status 15 = .ok (.iload_n 1, 1) := by decide +kernel
theorem dX2_status_16 : decode cX2_status 16 = .ok (.aaload, 1) := by decide +kernel
theorem dX2_status_17 : decode cX2_status 17 = .ok (.getfield 137, 3) := by decide +kernel
theorem dX2_status_20 : decode cX2_status 20 = .ok (.goto 4, 3) := by decide +kernel
theorem dX2_status_23 : decode cX2_status 23 = .ok (.iconst (-1), 1) := by decide +kernel
theorem dX2_status_24 : decode cX2_status 24 = .ok (.ireturn, 1) := by decide +kernel
theorem dX2_sleep_0 : decode cX2_sleep 0 = .ok (.aload_n 0, 1) := by decide +kernel
theorem dX2_sleep_1 : decode cX2_sleep 1 = .ok (.iload_n 1, 1) := by decide +kernel
theorem dX2_sleep_2 : decode cX2_sleep 2 = .ok (.invokevirtual 119, 3) := by decide +kernel
theorem dX2_sleep_5 : decode cX2_sleep 5 = .ok (.ifCond .eq 18, 3) := by decide +kernel
theorem dX2_sleep_8 : decode cX2_sleep 8 = .ok (.aload_n 0, 1) := by decide +kernel
theorem dX2_sleep_9 : decode cX2_sleep 9 = .ok (.getfield 20, 3) := by decide +kernel
theorem dX2_sleep_12 : decode cX2_sleep 12 = .ok (.getfield 125, 3) := by decide +kernel
theorem dX2_sleep_15 : decode cX2_sleep 15 = .ok (.iload_n 1, 1) := by decide +kernel
theorem dX2_sleep_16 : decode cX2_sleep 16 = .ok (.aaload, 1) := by decide +kernel
theorem dX2_sleep_17 : decode cX2_sleep 17 = .ok (.getfield 140, 3) := by decide +kernel
theorem dX2_sleep_20 : decode cX2_sleep 20 = .ok (.goto 4, 3) := by decide +kernel
theorem dX2_sleep_23 : decode cX2_sleep 23 = .ok (.iconst (-1), 1) := by decide +kernel
theorem dX2_sleep_24 : decode cX2_sleep 24 = .ok (.ireturn, 1) := by decide +kernel
theorem dX2_stackCount_0 : decode cX2_stackCount 0 = .ok (.aload_n 0, 1) := by decide +kernel
theorem dX2_stackCount_1 : decode cX2_stackCount 1 = .ok (.iload_n 1, 1) := by decide +kernel
theorem dX2_stackCount_2 : decode cX2_stackCount 2 = .ok (.invokevirtual 119, 3) := by decide +kernel
theorem dX2_stackCount_5 : decode cX2_stackCount 5 = .ok (.ifCond .eq 18, 3) := by decide +kernel
theorem dX2_stackCount_8 : decode cX2_stackCount 8 = .ok (.aload_n 0, 1) := by decide +kernel
theorem dX2_stackCount_9 : decode cX2_stackCount 9 = .ok (.getfield 20, 3) := by decide +kernel
theorem dX2_stackCount_12 : decode cX2_stackCount 12 = .ok (.getfield 125, 3) := by decide +kernel
theorem dX2_stackCount_15 : decode cX2_stackCount 15 = .ok (.iload_n 1, 1) := by decide +kernel
theorem dX2_stackCount_16 : decode cX2_stackCount 16 = .ok (.aaload, 1) := by decide +kernel
theorem dX2_stackCount_17 : decode cX2_stackCount 17 = .ok (.getfield 143, 3) := by decide +kernel
theorem dX2_stackCount_20 : decode cX2_stackCount 20 = .ok (.goto 4, 3) := by decide +kernel
theorem dX2_stackCount_23 : decode cX2_stackCount 23 = .ok (.iconst (-1), 1) := by decide +kernel
theorem dX2_stackCount_24 : decode cX2_stackCount 24 = .ok (.ireturn, 1) := by decide +kernel
theorem dX2_stackSize_0 : decode cX2_stackSize 0 = .ok (.aload_n 0, 1) := by decide +kernel
theorem dX2_stackSize_1 : decode cX2_stackSize 1 = .ok (.iload_n 1, 1) := by decide +kernel
theorem dX2_stackSize_2 : decode cX2_stackSize 2 = .ok (.iload_n 2, 1) := by decide +kernel
theorem dX2_stackSize_3 : decode cX2_stackSize 3 = .ok (.invokevirtual 146, 3) := by decide +kernel
theorem dX2_stackSize_6 : decode cX2_stackSize 6 = .ok (.ifCond .eq 20, 3) := by decide +kernel
theorem dX2_stackSize_9 : decode cX2_stackSize 9 = .ok (.aload_n 0, 1) := by decide +kernel
theorem dX2_stackSize_10 : decode cX2_stackSize 10 = .ok (.getfield 20, 3) := by decide +kernel
theorem dX2_stackSize_13 : decode cX2_stackSize 13 = .ok (.getfield 125, 3) := by decide +kernel
theorem dX2_stackSize_16 : decode cX2_stackSize 16 = .ok (.iload_n 1, 1) := by decide +kernel
theorem dX2_stackSize_17 : decode cX2_stackSize 17 = .ok (.aaload, 1) := by decide +kernel
theorem dX2_stackSize_18 : decode cX2_stackSize 18 = .ok (.getfield 149, 3) := by decide +kernel
theorem dX2_stackSize_21 : decode cX2_stackSize 21 = .ok (.iload_n 2, 1) := by decide +kernel
theorem dX2_stackSize_22 : decode cX2_stackSize 22 = .ok (.iaload, 1) := by decide +kernel
theorem dX2_stackSize_23 : decode cX2_stackSize 23 = .ok (.goto 4, 3) := by decide +kernel
theorem dX2_stackSize_26 : decode cX2_stackSize 26 = .ok (.iconst (-1), 1) := by decide +kernel
theorem dX2_stackSize_27 : decode cX2_stackSize 27 = .ok (.ireturn, 1) := by decide +kernel
theorem dX2_valueAt_0 : decode cX2_valueAt 0 = .ok (.aload_n 0, 1) := by decide +kernel
theorem dX2_valueAt_1 : decode cX2_valueAt 1 = .ok (.iload_n 1, 1) := by decide +kernel
theorem dX2_valueAt_2 : decode cX2_valueAt 2 = .ok (.iload_n 2, 1) := by decide +kernel
theorem dX2_valueAt_3 : decode cX2_valueAt 3 = .ok (.invokevirtual 146, 3) := by decide +kernel
theorem dX2_valueAt_6 : decode cX2_valueAt 6 = .ok (.ifCond .ne 5, 3) := by decide +kernel
theorem dX2_valueAt_9 : decode cX2_valueAt 9 = .ok (.iconst 0, 1) := by decide +kernel
theorem dX2_valueAt_10 : decode cX2_valueAt 10 = .ok (.ireturn, 1) := by decide +kernel
theorem dX2_valueAt_11 : decode cX2_valueAt 11 = .ok (.aload_n 0, 1) := by decide +kernel
theorem dX2_valueAt_12 : decode cX2_valueAt 12 = .ok (.getfield 20, 3) := by decide +kernel
theorem dX2_valueAt_15 : decode cX2_valueAt 15 = .ok (.getfield 125, 3) := by decide +kernel
theorem dX2_valueAt_18 : decode cX2_valueAt 18 = .ok (.iload_n 1, 1) := by decide +kernel
theorem dX2_valueAt_19 : decode cX2_valueAt 19 = .ok (.aaload, 1) := by decide +kernel
theorem dX2_valueAt_20 : decode cX2_valueAt 20 = .ok (.astore 4, 2) := by decide +kernel
theorem dX2_valueAt_22 : decode cX2_valueAt 22 = .ok (.iload_n 3, 1) := by decide +kernel
theorem dX2_valueAt_23 : decode cX2_valueAt 23 = .ok (.ifCond .lt 14, 3) := by decide +kernel
theorem dX2_valueAt_26 : decode cX2_valueAt 26 = .ok (.iload_n 3, 1) := by decide +kernel
theorem dX2_valueAt_27 : decode cX2_valueAt 27 = .ok (.aload 4, 2) := by decide +kernel
theorem dX2_valueAt_29 : decode cX2_valueAt 29 = .ok (.getfield 149, 3) := by decide +kernel
theorem dX2_valueAt_32 : decode cX2_valueAt 32 = .ok (.iload_n 2, 1) := by decide +kernel
theorem dX2_valueAt_33 : decode cX2_valueAt 33 = .ok (.iaload, 1) := by decide +kernel
theorem dX2_valueAt_34 : decode cX2_valueAt 34 = .ok (.if_icmp .lt 5, 3) := by decide +kernel
theorem dX2_valueAt_37 : decode cX2_valueAt 37 = .ok (.iconst 0, 1) := by decide +kernel
theorem dX2_valueAt_38 : decode cX2_valueAt 38 = .ok (.ireturn, 1) := by decide +kernel
theorem dX2_valueAt_39 : decode cX2_valueAt 39 = .ok (.aload 4, 2) := by decide +kernel
theorem dX2_valueAt_41 : decode cX2_valueAt 41 = .ok (.getfield 152, 3) := by decide +kernel
theorem dX2_valueAt_44 : decode cX2_valueAt 44 = .ok (.aload 4, 2) := by decide +kernel
theorem dX2_valueAt_46 : decode cX2_valueAt 46 = .ok (.iload_n 2, 1) := by decide +kernel
theorem dX2_valueAt_47 : decode cX2_valueAt 47 = .ok (.invokevirtual 155, 3) := by decide +kernel
theorem dX2_valueAt_50 : decode cX2_valueAt 50 = .ok (.iload_n 3, 1) := by decide +kernel
theorem dX2_valueAt_51 : decode cX2_valueAt 51 = .ok (.iadd, 1) := by decide +kernel
theorem dX2_valueAt_52 : decode cX2_valueAt 52 = .ok (.iaload, 1) := by decide +kernel
theorem dX2_valueAt_53 : decode cX2_valueAt 53 = .ok (.ireturn, 1) := by decide +kernel
theorem dX2_inputSize_0 : decode cX2_inputSize 0 = .ok (.aload_n 0, 1) := by decide +kernel
theorem dX2_inputSize_1 : decode cX2_inputSize 1 = .ok (.getfield 20, 3) := by decide +kernel
theorem dX2_inputSize_4 : decode cX2_inputSize 4 = .ok (.getfield 54, 3) := by decide +kernel
theorem dX2_inputSize_7 : decode cX2_inputSize 7 = .ok (.ireturn, 1) := by decide +kernel
theorem dX2_outputSize_0 : decode cX2_outputSize 0 = .ok (.aload_n 0, 1) := by decide +kernel
theorem dX2_outputSize_1 : decode cX2_outputSize 1 = .ok (.getfield 20, 3) := by decide +kernel
theorem dX2_outputSize_4 : decode cX2_outputSize 4 = .ok (.getfield 158, 3) := by decide +kernel
theorem dX2_outputSize_7 : decode cX2_outputSize 7 = .ok (.ireturn, 1) := by decide +kernel
theorem dX2_outputAt_0 : decode cX2_outputAt 0 = .ok (.iload_n 1, 1) := by decide +kernel
theorem dX2_outputAt_1 : decode cX2_outputAt 1 = .ok (.ifCond .lt 26, 3) := by decide +kernel
theorem dX2_outputAt_4 : decode cX2_outputAt 4 = .ok (.iload_n 1, 1) := by decide +kernel
theorem dX2_outputAt_5 : decode cX2_outputAt 5 = .ok (.aload_n 0, 1) := by decide +kernel
theorem dX2_outputAt_6 : decode cX2_outputAt 6 = .ok (.getfield 20, 3) := by decide +kernel
theorem dX2_outputAt_9 : decode cX2_outputAt 9 = .ok (.getfield 158, 3) := by decide +kernel
theorem dX2_outputAt_12 : decode cX2_outputAt 12 = .ok (.if_icmp .ge 15, 3) := by decide +kernel
theorem dX2_outputAt_15 : decode cX2_outputAt 15 = .ok (.aload_n 0, 1) := by decide +kernel
theorem dX2_outputAt_16 : decode cX2_outputAt 16 = .ok (.getfield 20, 3) := by decide +kernel
theorem dX2_outputAt_19 : decode cX2_outputAt 19 = .ok (.getfield 161, 3) := by decide +kernel
theorem dX2_outputAt_22 : decode cX2_outputAt 22 = .ok (.iload_n 1, 1) := by decide +kernel
theorem dX2_outputAt_23 : decode cX2_outputAt 23 = .ok (.iaload, 1) := by decide +kernel
theorem dX2_outputAt_24 : decode cX2_outputAt 24 = .ok (.goto 4, 3) := by decide +kernel
theorem dX2_outputAt_27 : decode cX2_outputAt 27 = .ok (.iconst 0, 1) := by decide +kernel
theorem dX2_outputAt_28 : decode cX2_outputAt 28 = .ok (.ireturn, 1) := by decide +kernel
theorem dX2_outputTotal_0 : decode cX2_outputTotal 0 = .ok (.aload_n 0, 1) := by decide +kernel
theorem dX2_outputTotal_1 : decode cX2_outputTotal 1 = .ok (.getfield 20, 3) := by decide +kernel
theorem dX2_outputTotal_4 : decode cX2_outputTotal 4 = .ok (.getfield 164, 3) := by decide +kernel
theorem dX2_outputTotal_7 : decode cX2_outputTotal 7 = .ok (.ireturn, 1) := by decide +kernel
theorem dX2_tickCount_0 : decode cX2_tickCount 0 = .ok (.aload_n 0, 1) := by decide +kernel
theorem dX2_tickCount_1 : decode cX2_tickCount 1 = .ok (.getfield 20, 3) := by decide +kernel
theorem dX2_tickCount_4 : decode cX2_tickCount 4 = .ok (.getfield 63, 3) := by decide +kernel
theorem dX2_tickCount_7 : decode cX2_tickCount 7 = .ok (.ireturn, 1) := by decide +kernel
theorem dX2_save_0 : decode cX2_save 0 = .ok (.iload_n 1, 1) := by decide +kernel
theorem dX2_save_1 : decode cX2_save 1 = .ok (.ifCond .lt 8, 3) := by decide +kernel
theorem dX2_save_4 : decode cX2_save 4 = .ok (.iload_n 1, 1) := by decide +kernel
theorem dX2_save_5 : decode cX2_save 5 = .ok (.iconst 2, 1) := by decide +kernel
theorem dX2_save_6 : decode cX2_save 6 = .ok (.if_icmp .lt 5, 3) := by decide +kernel
theorem dX2_save_9 : decode cX2_save 9 = .ok (.iconst (-1), 1) := by decide +kernel
theorem dX2_save_10 : decode cX2_save 10 = .ok (.ireturn, 1) := by decide +kernel
theorem dX2_save_11 : decode cX2_save 11 = .ok (.aload_n 0, 1) := by decide +kernel
theorem dX2_save_12 : decode cX2_save 12 = .ok (.getfield 28, 3) := by decide +kernel
theorem dX2_save_15 : decode cX2_save 15 = .ok (.iload_n 1, 1) := by decide +kernel
theorem dX2_save_16 : decode cX2_save 16 = .ok (.aaload, 1) := by decide +kernel
theorem dX2_save_17 : decode cX2_save 17 = .ok (.aload_n 0, 1) := by decide +kernel
theorem dX2_save_18 : decode cX2_save 18 = .ok (.getfield 20, 3) := by decide +kernel
theorem dX2_save_21 : decode cX2_save 21 = .ok (.invokevirtual 91, 3) := by decide +kernel
theorem dX2_save_24 : decode cX2_save 24 = .ok (.aload_n 0, 1) := by decide +kernel
theorem dX2_save_25 : decode cX2_save 25 = .ok (.getfield 31, 3) := by decide +kernel
theorem dX2_save_28 : decode cX2_save 28 = .ok (.iload_n 1, 1) := by decide +kernel
theorem dX2_save_29 : decode cX2_save 29 = .ok (.iconst 1, 1) := by decide +kernel
theorem dX2_save_30 : decode cX2_save 30 = .ok (.bastore, 1) := by decide +kernel
theorem dX2_save_31 : decode cX2_save 31 = .ok (.aload_n 0, 1) := by decide +kernel
theorem dX2_save_32 : decode cX2_save 32 = .ok (.getfield 20, 3) := by decide +kernel
theorem dX2_save_35 : decode cX2_save 35 = .ok (.getfield 63, 3) := by decide +kernel
theorem dX2_save_38 : decode cX2_save 38 = .ok (.ireturn, 1) := by decide +kernel
theorem dX2_restore_0 : decode cX2_restore 0 = .ok (.iload_n 1, 1) := by decide +kernel
theorem dX2_restore_1 : decode cX2_restore 1 = .ok (.ifCond .lt 8, 3) := by decide +kernel
theorem dX2_restore_4 : decode cX2_restore 4 = .ok (.iload_n 1, 1) := by decide +kernel
theorem dX2_restore_5 : decode cX2_restore 5 = .ok (.iconst 2, 1) := by decide +kernel
theorem dX2_restore_6 : decode cX2_restore 6 = .ok (.if_icmp .lt 5, 3) := by decide +kernel
theorem dX2_restore_9 : decode cX2_restore 9 = .ok (.iconst (-1), 1) := by decide +kernel
theorem dX2_restore_10 : decode cX2_restore 10 = .ok (.ireturn, 1) := by decide +kernel
theorem dX2_restore_11 : decode cX2_restore 11 = .ok (.aload_n 0, 1) := by decide +kernel
theorem dX2_restore_12 : decode cX2_restore 12 = .ok (.getfield 31, 3) := by decide +kernel
theorem dX2_restore_15 : decode cX2_restore 15 = .ok (.iload_n 1, 1) := by decide +kernel
theorem dX2_restore_16 : decode cX2_restore 16 = .ok (.baload, 1) := by decide +kernel
theorem dX2_restore_17 : decode cX2_restore 17 = .ok (.ifCond .ne 6, 3) := by decide +kernel
theorem dX2_restore_20 : decode cX2_restore 20 = .ok (.bipush (-2), 2) := by decide +kernel
theorem dX2_restore_22 : decode cX2_restore 22 = .ok (.ireturn, 1) := by decide +kernel
theorem dX2_restore_23 : decode cX2_restore 23 = .ok (.aload_n 0, 1) := by decide +kernel
theorem dX2_restore_24 : decode cX2_restore 24 = .ok (.getfield 20, 3) := by decide +kernel
theorem dX2_restore_27 : decode cX2_restore 27 = .ok (.aload_n 0, 1) := by decide +kernel
theorem dX2_restore_28 : decode cX2_restore 28 = .ok (.getfield 28, 3) := by decide +kernel
theorem dX2_restore_31 : decode cX2_restore 31 = .ok (.iload_n 1, 1) := by decide +kernel
theorem dX2_restore_32 : decode cX2_restore 32 = .ok (.aaload, 1) := by decide +kernel
theorem dX2_restore_33 : decode cX2_restore 33 = .ok (.invokevirtual 91, 3) := by decide +kernel
theorem dX2_restore_36 : decode cX2_restore 36 = .ok (.aload_n 0, 1) := by decide +kernel
theorem dX2_restore_37 : decode cX2_restore 37 = .ok (.iconst 0, 1) := by decide +kernel
theorem dX2_restore_38 : decode cX2_restore 38 = .ok (.putfield 88, 3) := by decide +kernel
theorem dX2_restore_41 : decode cX2_restore 41 = .ok (.aload_n 0, 1) := by decide +kernel
theorem dX2_restore_42 : decode cX2_restore 42 = .ok (.getfield 20, 3) := by decide +kernel
theorem dX2_restore_45 : decode cX2_restore 45 = .ok (.getfield 63, 3) := by decide +kernel
theorem dX2_restore_48 : decode cX2_restore 48 = .ok (.ireturn, 1) := by decide +kernel
theorem dX2_undoDepth_0 : decode cX2_undoDepth 0 = .ok (.aload_n 0, 1) := by decide +kernel
theorem dX2_undoDepth_1 : decode cX2_undoDepth 1 = .ok (.getfield 88, 3) := by decide +kernel
theorem dX2_undoDepth_4 : decode cX2_undoDepth 4 = .ok (.ireturn, 1) := by decide +kernel
theorem dX2_isCell_0 : decode cX2_isCell 0 = .ok (.iload_n 0, 1) := by decide +kernel
theorem dX2_isCell_1 : decode cX2_isCell 1 = .ok (.ifCond .lt 23, 3) := by decide +kernel
theorem dX2_isCell_4 : decode cX2_isCell 4 = .ok (.iload_n 0, 1) := by decide +kernel
theorem dX2_isCell_5 : decode cX2_isCell 5 = .ok (.bipush 12, 2) := by decide +kernel
theorem dX2_isCell_7 : decode cX2_isCell 7 = .ok (.if_icmp .ge 17, 3) := by decide +kernel
theorem dX2_isCell_10 : decode cX2_isCell 10 = .ok (.iload_n 1, 1) := by decide +kernel
theorem dX2_isCell_11 : decode cX2_isCell 11 = .ok (.ifCond .lt 13, 3) := by decide +kernel
theorem dX2_isCell_14 : decode cX2_isCell 14 = .ok (.iload_n 1, 1) := by decide +kernel
theorem dX2_isCell_15 : decode cX2_isCell 15 = .ok (.bipush 6, 2) := by decide +kernel
theorem dX2_isCell_17 : decode cX2_isCell 17 = .ok (.if_icmp .ge 7, 3) := by decide +kernel
theorem dX2_isCell_20 : decode cX2_isCell 20 = .ok (.iconst 1, 1) := by decide +kernel
theorem dX2_isCell_21 : decode cX2_isCell 21 = .ok (.goto 4, 3) := by decide +kernel
theorem dX2_isCell_24 : decode cX2_isCell 24 = .ok (.iconst 0, 1) := by decide +kernel
theorem dX2_isCell_25 : decode cX2_isCell 25 = .ok (.ireturn, 1) := by decide +kernel
theorem dX2_isCode_0 : decode cX2_isCode 0 = .ok (.iload_n 0, 1) := by decide +kernel
theorem dX2_isCode_1 : decode cX2_isCode 1 = .ok (.bipush 32, 2) := by decide +kernel
theorem dX2_isCode_3 : decode cX2_isCode 3 = .ok (.if_icmp .lt 13, 3) := by decide +kernel
theorem dX2_isCode_6 : decode cX2_isCode 6 = .ok (.iload_n 0, 1) := by decide +kernel
theorem dX2_isCode_7 : decode cX2_isCode 7 = .ok (.bipush 126, 2) := by decide +kernel
theorem dX2_isCode_9 : decode cX2_isCode 9 = .ok (.if_icmp .gt 7, 3) := by decide +kernel
theorem dX2_isCode_12 : decode cX2_isCode 12 = .ok (.iconst 1, 1) := by decide +kernel
theorem dX2_isCode_13 : decode cX2_isCode 13 = .ok (.goto 4, 3) := by decide +kernel
theorem dX2_isCode_16 : decode cX2_isCode 16 = .ok (.iconst 0, 1) := by decide +kernel
theorem dX2_isCode_17 : decode cX2_isCode 17 = .ok (.ireturn, 1) := by decide +kernel
theorem dX2_isTickLimit_0 : decode cX2_isTickLimit 0 = .ok (.iload_n 0, 1) := by decide +kernel
theorem dX2_isTickLimit_1 : decode cX2_isTickLimit 1 = .ok (.iconst 1, 1) := by decide +kernel
theorem dX2_isTickLimit_2 : decode cX2_isTickLimit 2 = .ok (.if_icmp .lt 14, 3) := by decide +kernel
theorem dX2_isTickLimit_5 : decode cX2_isTickLimit 5 = .ok (.iload_n 0, 1) := by decide +kernel
theorem dX2_isTickLimit_6 : decode cX2_isTickLimit 6 = .ok (.sipush 200, 3) := by decide +kernel
theorem dX2_isTickLimit_9 : decode cX2_isTickLimit 9 = .ok (.if_icmp .gt 7, 3) := by decide +kernel
theorem dX2_isTickLimit_12 : decode cX2_isTickLimit 12 = .ok (.iconst 1, 1) := by decide +kernel
theorem dX2_isTickLimit_13 : decode cX2_isTickLimit 13 = .ok (.goto 4, 3) := by decide +kernel
theorem dX2_isTickLimit_16 : decode cX2_isTickLimit 16 = .ok (.iconst 0, 1) := by decide +kernel
theorem dX2_isTickLimit_17 : decode cX2_isTickLimit 17 = .ok (.ireturn, 1) := by decide +kernel
theorem dX2_isPointer_0 : decode cX2_isPointer 0 = .ok (.iload_n 1, 1) := by decide +kernel
theorem dX2_isPointer_1 : decode cX2_isPointer 1 = .ok (.ifCond .lt 18, 3) := by decide +kernel
theorem dX2_isPointer_4 : decode cX2_isPointer 4 = .ok (.iload_n 1, 1) := by decide +kernel
theorem dX2_isPointer_5 : decode cX2_isPointer 5 = .ok (.aload_n 0, 1) := by decide +kernel
theorem dX2_isPointer_6 : decode cX2_isPointer 6 = .ok (.getfield 20, 3) := by decide +kernel
theorem dX2_isPointer_9 : decode cX2_isPointer 9 = .ok (.getfield 116, 3) := by decide +kernel
theorem dX2_isPointer_12 : decode cX2_isPointer 12 = .ok (.if_icmp .ge 7, 3) := by decide +kernel
theorem dX2_isPointer_15 : decode cX2_isPointer 15 = .ok (.iconst 1, 1) := by decide +kernel
theorem dX2_isPointer_16 : decode cX2_isPointer 16 = .ok (.goto 4, 3) := by decide +kernel
theorem dX2_isPointer_19 : decode cX2_isPointer 19 = .ok (.iconst 0, 1) := by decide +kernel
theorem dX2_isPointer_20 : decode cX2_isPointer 20 = .ok (.ireturn, 1) := by decide +kernel
theorem dX2_isStack_0 : decode cX2_isStack 0 = .ok (.aload_n 0, 1) := by decide +kernel
theorem dX2_isStack_1 : decode cX2_isStack 1 = .ok (.iload_n 1, 1) := by decide +kernel
theorem dX2_isStack_2 : decode cX2_isStack 2 = .ok (.invokevirtual 119, 3) := by decide +kernel
theorem dX2_isStack_5 : decode cX2_isStack 5 = .ok (.ifCond .eq 27, 3) := by decide +kernel
theorem dX2_isStack_8 : decode cX2_isStack 8 = .ok (.iload_n 2, 1) := by decide +kernel
theorem dX2_isStack_9 : decode cX2_isStack 9 = .ok (.ifCond .lt 23, 3) := by decide +kernel
theorem dX2_isStack_12 : decode cX2_isStack 12 = .ok (.iload_n 2, 1) := by decide +kernel
theorem dX2_isStack_13 : decode cX2_isStack 13 = .ok (.aload_n 0, 1) := by decide +kernel
theorem dX2_isStack_14 : decode cX2_isStack 14 = .ok (.getfield 20, 3) := by decide +kernel
theorem dX2_isStack_17 : decode cX2_isStack 17 = .ok (.getfield 125, 3) := by decide +kernel
theorem dX2_isStack_20 : decode cX2_isStack 20 = .ok (.iload_n 1, 1) := by decide +kernel
theorem dX2_isStack_21 : decode cX2_isStack 21 = .ok (.aaload, 1) := by decide +kernel
theorem dX2_isStack_22 : decode cX2_isStack 22 = .ok (.getfield 143, 3) := by decide +kernel
theorem dX2_isStack_25 : decode cX2_isStack 25 = .ok (.if_icmp .ge 7, 3) := by decide +kernel
theorem dX2_isStack_28 : decode cX2_isStack 28 = .ok (.iconst 1, 1) := by decide +kernel
theorem dX2_isStack_29 : decode cX2_isStack 29 = .ok (.goto 4, 3) := by decide +kernel
theorem dX2_isStack_32 : decode cX2_isStack 32 = .ok (.iconst 0, 1) := by decide +kernel
theorem dX2_isStack_33 : decode cX2_isStack 33 = .ok (.ireturn, 1) := by decide +kernel
theorem dX2_errorPosition_0 : decode cX2_errorPosition 0 = .ok (.iconst 0, 1) := by decide +kernel
theorem dX2_errorPosition_1 : decode cX2_errorPosition 1 = .ok (.istore_n 1, 1) := by decide +kernel
theorem dX2_errorPosition_2 : decode cX2_errorPosition 2 = .ok (.iconst 0, 1) := by decide +kernel
theorem dX2_errorPosition_3 : decode cX2_errorPosition 3 = .ok (.istore_n 2, 1) := by decide +kernel
theorem dX2_errorPosition_4 : decode cX2_errorPosition 4 = .ok (.iconst 0, 1) := by decide +kernel
theorem dX2_errorPosition_5 : decode cX2_errorPosition 5 = .ok (.istore_n 3, 1) := by decide +kernel
theorem dX2_errorPosition_6 : decode cX2_errorPosition 6 = .ok (.iload_n 3, 1) := by decide +kernel
theorem dX2_errorPosition_7 : decode cX2_errorPosition 7 = .ok (.aload_n 0, 1) := by decide +kernel
theorem dX2_errorPosition_8 : decode cX2_errorPosition 8 = .ok (.getfield 40, 3) := by decide +kernel
theorem dX2_errorPosition_11 : decode cX2_errorPosition 11 = .ok (.if_icmp .ge 59, 3) := by decide +kernel
theorem dX2_errorPosition_14 : decode cX2_errorPosition 14 = .ok (.aload_n 0, 1) := by decide +kernel
theorem dX2_errorPosition_15 : decode cX2_errorPosition 15 = .ok (.getfield 9, 3) := by decide +kernel
theorem dX2_errorPosition_18 : decode cX2_errorPosition 18 = .ok (.iload_n 3, 1) := by decide +kernel
theorem dX2_errorPosition_19 : decode cX2_errorPosition 19 = .ok (.iaload, 1) := by decide +kernel
theorem dX2_errorPosition_20 : decode cX2_errorPosition 20 = .ok (.istore 4, 2) := by decide +kernel
theorem dX2_errorPosition_22 : decode cX2_errorPosition 22 = .ok (.iload_n 1, 1) := by decide +kernel
theorem dX2_errorPosition_23 : decode cX2_errorPosition 23 = .ok (.bipush 6, 2) := by decide +kernel
theorem dX2_errorPosition_25 : decode cX2_errorPosition 25 = .ok (.if_icmp .lt 5, 3) := by decide +kernel
theorem dX2_errorPosition_28 : decode cX2_errorPosition 28 = .ok (.iload_n 3, 1) := by decide +kernel
theorem dX2_errorPosition_29 : decode cX2_errorPosition 29 = .ok (.ireturn, 1) := by decide +kernel
theorem dX2_errorPosition_30 : decode cX2_errorPosition 30 = .ok (.iload 4, 2) := by decide +kernel
theorem dX2_errorPosition_32 : decode cX2_errorPosition 32 = .ok (.bipush 10, 2) := by decide +kernel
theorem dX2_errorPosition_34 : decode cX2_errorPosition 34 = .ok (.if_icmp .ne 11, 3) := by decide +kernel
theorem dX2_errorPosition_37 : decode cX2_errorPosition 37 = .ok (.iinc 1 1, 3) := by decide +kernel
theorem dX2_errorPosition_40 : decode cX2_errorPosition 40 = .ok (.iconst 0, 1) := by decide +kernel
theorem dX2_errorPosition_41 : decode cX2_errorPosition 41 = .ok (.istore_n 2, 1) := by decide +kernel
theorem dX2_errorPosition_42 : decode cX2_errorPosition 42 = .ok (.goto 22, 3) := by decide +kernel
theorem dX2_errorPosition_45 : decode cX2_errorPosition 45 = .ok (.iload_n 2, 1) := by decide +kernel
theorem dX2_errorPosition_46 : decode cX2_errorPosition 46 = .ok (.bipush 12, 2) := by decide +kernel
theorem dX2_errorPosition_48 : decode cX2_errorPosition 48 = .ok (.if_icmp .ge 11, 3) := by decide +kernel
theorem dX2_errorPosition_51 : decode cX2_errorPosition 51 = .ok (.iload 4, 2) := by decide +kernel
theorem dX2_errorPosition_53 : decode cX2_errorPosition 53 = .ok (.invokestatic 74, 3) := by decide +kernel
theorem dX2_errorPosition_56 : decode cX2_errorPosition 56 = .ok (.ifCond .ne 5, 3) := by decide +kernel
theorem dX2_errorPosition_59 : decode cX2_errorPosition 59 = .ok (.iload_n 3, 1) := by decide +kernel
theorem dX2_errorPosition_60 : decode cX2_errorPosition 60 = .ok (.ireturn, 1) := by decide +kernel
theorem dX2_errorPosition_61 : decode cX2_errorPosition 61 = .ok (.iinc 2 1, 3) := by decide +kernel
theorem dX2_errorPosition_64 : decode cX2_errorPosition 64 = .ok (.iinc 3 1, 3) := by decide +kernel
theorem dX2_errorPosition_67 : decode cX2_errorPosition 67 = .ok (.goto (-61), 3) := by decide +kernel
theorem dX2_errorPosition_70 : decode cX2_errorPosition 70 = .ok (.bipush (-9), 2) := by decide +kernel
theorem dX2_errorPosition_72 : decode cX2_errorPosition 72 = .ok (.ireturn, 1) := by decide +kernel
theorem dX2_readProgram_0 : decode cX2_readProgram 0 = .ok (.iconst 0, 1) := by decide +kernel
theorem dX2_readProgram_1 : decode cX2_readProgram 1 = .ok (.istore_n 1, 1) := by decide +kernel
theorem dX2_readProgram_2 : decode cX2_readProgram 2 = .ok (.iload_n 1, 1) := by decide +kernel
theorem dX2_readProgram_3 : decode cX2_readProgram 3 = .ok (.bipush 72, 2) := by decide +kernel
theorem dX2_readProgram_5 : decode cX2_readProgram 5 = .ok (.if_icmp .ge 20, 3) := by decide +kernel
theorem dX2_readProgram_8 : decode cX2_readProgram 8 = .ok (.aload_n 0, 1) := by decide +kernel
theorem dX2_readProgram_9 : decode cX2_readProgram 9 = .ok (.getfield 20, 3) := by decide +kernel
theorem dX2_readProgram_12 : decode cX2_readProgram 12 = .ok (.getfield 113, 3) := by decide +kernel
theorem dX2_readProgram_15 : decode cX2_readProgram 15 = .ok (.iload_n 1, 1) := by decide +kernel
theorem dX2_readProgram_16 : decode cX2_readProgram 16 = .ok (.bipush 32, 2) := by decide +kernel
theorem dX2_readProgram_18 : decode cX2_readProgram 18 = .ok (.iastore, 1) := by decide +kernel
theorem dX2_readProgram_19 : decode cX2_readProgram 19 = .ok (.iinc 1 1, 3) := by decide +kernel
theorem dX2_readProgram_22 : decode cX2_readProgram 22 = .ok (.goto (-20), 3) := by decide +kernel
theorem dX2_readProgram_25 : decode cX2_readProgram 25 = .ok (.iconst 0, 1) := by decide +kernel
theorem dX2_readProgram_26 : decode cX2_readProgram 26 = .ok (.istore_n 1, 1) := by decide +kernel
theorem dX2_readProgram_27 : decode cX2_readProgram 27 = .ok (.iconst 0, 1) := by decide +kernel
theorem dX2_readProgram_28 : decode cX2_readProgram 28 = .ok (.istore_n 2, 1) := by decide +kernel
theorem dX2_readProgram_29 : decode cX2_readProgram 29 = .ok (.iconst 0, 1) := by decide +kernel
theorem dX2_readProgram_30 : decode cX2_readProgram 30 = .ok (.istore_n 3, 1) := by decide +kernel
theorem dX2_readProgram_31 : decode cX2_readProgram 31 = .ok (.iload_n 3, 1) := by decide +kernel
theorem dX2_readProgram_32 : decode cX2_readProgram 32 = .ok (.aload_n 0, 1) := by decide +kernel
theorem dX2_readProgram_33 : decode cX2_readProgram 33 = .ok (.getfield 40, 3) := by decide +kernel
theorem dX2_readProgram_36 : decode cX2_readProgram 36 = .ok (.if_icmp .ge 59, 3) := by decide +kernel
theorem dX2_readProgram_39 : decode cX2_readProgram 39 = .ok (.aload_n 0, 1) := by decide +kernel
theorem dX2_readProgram_40 : decode cX2_readProgram 40 = .ok (.getfield 9, 3) := by decide +kernel
theorem dX2_readProgram_43 : decode cX2_readProgram 43 = .ok (.iload_n 3, 1) := by decide +kernel
theorem dX2_readProgram_44 : decode cX2_readProgram 44 = .ok (.iaload, 1) := by decide +kernel
theorem dX2_readProgram_45 : decode cX2_readProgram 45 = .ok (.istore 4, 2) := by decide +kernel
theorem dX2_readProgram_47 : decode cX2_readProgram 47 = .ok (.iload 4, 2) := by decide +kernel
theorem dX2_readProgram_49 : decode cX2_readProgram 49 = .ok (.bipush 10, 2) := by decide +kernel
theorem dX2_readProgram_51 : decode cX2_readProgram 51 = .ok (.if_icmp .ne 11, 3) := by decide +kernel
theorem dX2_readProgram_54 : decode cX2_readProgram 54 = .ok (.iinc 1 1, 3) := by decide +kernel
theorem dX2_readProgram_57 : decode cX2_readProgram 57 = .ok (.iconst 0, 1) := by decide +kernel
theorem dX2_readProgram_58 : decode cX2_readProgram 58 = .ok (.istore_n 2, 1) := by decide +kernel
theorem dX2_readProgram_59 : decode cX2_readProgram 59 = .ok (.goto 30, 3) := by decide +kernel
theorem dX2_readProgram_62 : decode cX2_readProgram 62 = .ok (.iload_n 2, 1) := by decide +kernel
theorem dX2_readProgram_63 : decode cX2_readProgram 63 = .ok (.iload_n 1, 1) := by decide +kernel
theorem dX2_readProgram_64 : decode cX2_readProgram 64 = .ok (.invokestatic 70, 3) := by decide +kernel
theorem dX2_readProgram_67 : decode cX2_readProgram 67 = .ok (.ifCond .eq 22, 3) := by decide +kernel
theorem dX2_readProgram_70 : decode cX2_readProgram 70 = .ok (.aload_n 0, 1) := by decide +kernel
theorem dX2_readProgram_71 : decode cX2_readProgram 71 = .ok (.getfield 20, 3) := by decide +kernel
theorem dX2_readProgram_74 : decode cX2_readProgram 74 = .ok (.getfield 113, 3) := by decide +kernel
theorem dX2_readProgram_77 : decode cX2_readProgram 77 = .ok (.bipush 12, 2) := by decide +kernel
theorem dX2_readProgram_79 : decode cX2_readProgram 79 = .ok (.iload_n 1, 1) := by decide +kernel
theorem dX2_readProgram_80 : decode cX2_readProgram 80 = .ok (.imul, 1) := by decide +kernel
theorem dX2_readProgram_81 : decode cX2_readProgram 81 = .ok (.iload_n 2, 1) := by decide +kernel
theorem dX2_readProgram_82 : decode cX2_readProgram 82 = .ok (.iadd, 1) := by decide +kernel
theorem dX2_readProgram_83 : decode cX2_readProgram 83 = .ok (.iload 4, 2) := by decide +kernel
theorem dX2_readProgram_85 : decode cX2_readProgram 85 = .ok (.iastore, 1) := by decide +kernel
theorem dX2_readProgram_86 : decode cX2_readProgram 86 = .ok (.iinc 2 1, 3) := by decide +kernel
theorem dX2_readProgram_89 : decode cX2_readProgram 89 = .ok (.iinc 3 1, 3) := by decide +kernel
theorem dX2_readProgram_92 : decode cX2_readProgram 92 = .ok (.goto (-61), 3) := by decide +kernel
theorem dX2_readProgram_95 : decode cX2_readProgram 95 = .ok (.return_, 1) := by decide +kernel
theorem dX2_keepForUndo_0 : decode cX2_keepForUndo 0 = .ok (.aload_n 0, 1) := by decide +kernel
theorem dX2_keepForUndo_1 : decode cX2_keepForUndo 1 = .ok (.getfield 88, 3) := by decide +kernel
theorem dX2_keepForUndo_4 : decode cX2_keepForUndo 4 = .ok (.bipush 6, 2) := by decide +kernel
theorem dX2_keepForUndo_6 : decode cX2_keepForUndo 6 = .ok (.if_icmp .lt 50, 3) := by decide +kernel
theorem dX2_keepForUndo_9 : decode cX2_keepForUndo 9 = .ok (.aload_n 0, 1) := by decide +kernel
theorem dX2_keepForUndo_10 : decode cX2_keepForUndo 10 = .ok (.getfield 24, 3) := by decide +kernel
theorem dX2_keepForUndo_13 : decode cX2_keepForUndo 13 = .ok (.iconst 0, 1) := by decide +kernel
theorem dX2_keepForUndo_14 : decode cX2_keepForUndo 14 = .ok (.aaload, 1) := by decide +kernel
theorem dX2_keepForUndo_15 : decode cX2_keepForUndo 15 = .ok (.astore_n 1, 1) := by decide +kernel
theorem dX2_keepForUndo_16 : decode cX2_keepForUndo 16 = .ok (.iconst 1, 1) := by decide +kernel
theorem dX2_keepForUndo_17 : decode cX2_keepForUndo 17 = .ok (.istore_n 2, 1) := by decide +kernel
theorem dX2_keepForUndo_18 : decode cX2_keepForUndo 18 = .ok (.iload_n 2, 1) := by decide +kernel
theorem dX2_keepForUndo_19 : decode cX2_keepForUndo 19 = .ok (.bipush 6, 2) := by decide +kernel
theorem dX2_keepForUndo_21 : decode cX2_keepForUndo 21 = .ok (.if_icmp .ge 23, 3) := by decide +kernel
theorem dX2_keepForUndo_24 : decode cX2_keepForUndo 24 = .ok (.aload_n 0, 1) := by decide +kernel
theorem dX2_keepForUndo_25 : decode cX2_keepForUndo 25 = .ok (.getfield 24, 3) := by decide +kernel
theorem dX2_keepForUndo_28 : decode cX2_keepForUndo 28 = .ok (.iload_n 2, 1) := by decide +kernel
theorem dX2_keepForUndo_29 : decode cX2_keepForUndo 29 = .ok (.iconst 1, 1) := by decide +kernel
theorem dX2_keepForUndo_30 : decode cX2_keepForUndo 30 = .ok (.isub, 1) := by decide +kernel
theorem dX2_keepForUndo_31 : decode cX2_keepForUndo 31 = .ok (.aload_n 0, 1) := by decide +kernel
theorem dX2_keepForUndo_32 : decode cX2_keepForUndo 32 = .ok (.getfield 24, 3) := by decide +kernel
theorem dX2_keepForUndo_35 : decode cX2_keepForUndo 35 = .ok (.iload_n 2, 1) := by decide +kernel
theorem dX2_keepForUndo_36 : decode cX2_keepForUndo 36 = .ok (.aaload, 1) := by decide +kernel
theorem dX2_keepForUndo_37 : decode cX2_keepForUndo 37 = .ok (.aastore, 1) := by decide +kernel
theorem dX2_keepForUndo_38 : decode cX2_keepForUndo 38 = .ok (.iinc 2 1, 3) := by decide +kernel
theorem dX2_keepForUndo_41 : decode cX2_keepForUndo 41 = .ok (.goto (-23), 3) := by decide +kernel
theorem dX2_keepForUndo_44 : decode cX2_keepForUndo 44 = .ok (.aload_n 0, 1) := by decide +kernel
theorem dX2_keepForUndo_45 : decode cX2_keepForUndo 45 = .ok (.getfield 24, 3) := by decide +kernel
theorem dX2_keepForUndo_48 : decode cX2_keepForUndo 48 = .ok (.iconst 5, 1) := by decide +kernel
theorem dX2_keepForUndo_49 : decode cX2_keepForUndo 49 = .ok (.aload_n 1, 1) := by decide +kernel
theorem dX2_keepForUndo_50 : decode cX2_keepForUndo 50 = .ok (.aastore, 1) := by decide +kernel
theorem dX2_keepForUndo_51 : decode cX2_keepForUndo 51 = .ok (.aload_n 0, 1) := by decide +kernel
theorem dX2_keepForUndo_52 : decode cX2_keepForUndo 52 = .ok (.iconst 5, 1) := by decide +kernel
theorem dX2_keepForUndo_53 : decode cX2_keepForUndo 53 = .ok (.putfield 88, 3) := by decide +kernel
theorem dX2_keepForUndo_56 : decode cX2_keepForUndo 56 = .ok (.aload_n 0, 1) := by decide +kernel
theorem dX2_keepForUndo_57 : decode cX2_keepForUndo 57 = .ok (.getfield 24, 3) := by decide +kernel
theorem dX2_keepForUndo_60 : decode cX2_keepForUndo 60 = .ok (.aload_n 0, 1) := by decide +kernel
theorem dX2_keepForUndo_61 : decode cX2_keepForUndo 61 = .ok (.getfield 88, 3) := by decide +kernel
theorem dX2_keepForUndo_64 : decode cX2_keepForUndo 64 = .ok (.aaload, 1) := by decide +kernel
theorem dX2_keepForUndo_65 : decode cX2_keepForUndo 65 = .ok (.aload_n 0, 1) := by decide +kernel
theorem dX2_keepForUndo_66 : decode cX2_keepForUndo 66 = .ok (.getfield 20, 3) := by decide +kernel
theorem dX2_keepForUndo_69 : decode cX2_keepForUndo 69 = .ok (.invokevirtual 91, 3) := by decide +kernel
theorem dX2_keepForUndo_72 : decode cX2_keepForUndo 72 = .ok (.aload_n 0, 1) := by decide +kernel
theorem dX2_keepForUndo_73 : decode cX2_keepForUndo 73 = .ok (.dup, 1) := by decide +kernel
theorem dX2_keepForUndo_74 : decode cX2_keepForUndo 74 = .ok (.getfield 88, 3) := by decide +kernel
theorem dX2_keepForUndo_77 : decode cX2_keepForUndo 77 = .ok (.iconst 1, 1) := by decide +kernel
theorem dX2_keepForUndo_78 : decode cX2_keepForUndo 78 = .ok (.iadd, 1) := by decide +kernel
theorem dX2_keepForUndo_79 : decode cX2_keepForUndo 79 = .ok (.putfield 88, 3) := by decide +kernel
theorem dX2_keepForUndo_82 : decode cX2_keepForUndo 82 = .ok (.return_, 1) := by decide +kernel
theorem dX2_advance_0 : decode cX2_advance 0 = .ok (.iload_n 1, 1) := by decide +kernel
theorem dX2_advance_1 : decode cX2_advance 1 = .ok (.invokestatic 95, 3) := by decide +kernel
theorem dX2_advance_4 : decode cX2_advance 4 = .ok (.ifCond .ne 5, 3) := by decide +kernel
theorem dX2_advance_7 : decode cX2_advance 7 = .ok (.iconst (-1), 1) := by decide +kernel
theorem dX2_advance_8 : decode cX2_advance 8 = .ok (.ireturn, 1) := by decide +kernel
theorem dX2_advance_9 : decode cX2_advance 9 = .ok (.aload_n 0, 1) := by decide +kernel
theorem dX2_advance_10 : decode cX2_advance 10 = .ok (.getfield 20, 3) := by decide +kernel
theorem dX2_advance_13 : decode cX2_advance 13 = .ok (.invokevirtual 98, 3) := by decide +kernel
theorem dX2_advance_16 : decode cX2_advance 16 = .ok (.ifCond .eq 6, 3) := by decide +kernel
theorem dX2_advance_19 : decode cX2_advance 19 = .ok (.bipush (-2), 2) := by decide +kernel
theorem dX2_advance_21 : decode cX2_advance 21 = .ok (.ireturn, 1) := by decide +kernel
theorem dX2_advance_22 : decode cX2_advance 22 = .ok (.aload_n 0, 1) := by decide +kernel
theorem dX2_advance_23 : decode cX2_advance 23 = .ok (.invokevirtual 48, 3) := by decide +kernel
theorem dX2_advance_26 : decode cX2_advance 26 = .ok (.iconst 0, 1) := by decide +kernel
theorem dX2_advance_27 : decode cX2_advance 27 = .ok (.istore_n 3, 1) := by decide +kernel
theorem dX2_advance_28 : decode cX2_advance 28 = .ok (.iload_n 3, 1) := by decide +kernel
theorem dX2_advance_29 : decode cX2_advance 29 = .ok (.iload_n 1, 1) := by decide +kernel
theorem dX2_advance_30 : decode cX2_advance 30 = .ok (.if_icmp .ge 37, 3) := by decide +kernel
theorem dX2_advance_33 : decode cX2_advance 33 = .ok (.aload_n 0, 1) := by decide +kernel
theorem dX2_advance_34 : decode cX2_advance 34 = .ok (.getfield 20, 3) := by decide +kernel
theorem dX2_advance_37 : decode cX2_advance 37 = .ok (.invokevirtual 98, 3) := by decide +kernel
theorem dX2_advance_40 : decode cX2_advance 40 = .ok (.ifCond .ne 27, 3) := by decide +kernel
theorem dX2_advance_43 : decode cX2_advance 43 = .ok (.aload_n 0, 1) := by decide +kernel
theorem dX2_advance_44 : decode cX2_advance 44 = .ok (.getfield 20, 3) := by decide +kernel
theorem dX2_advance_47 : decode cX2_advance 47 = .ok (.invokevirtual 102, 3) := by decide +kernel
theorem dX2_advance_50 : decode cX2_advance 50 = .ok (.iinc 3 1, 3) := by decide +kernel
theorem dX2_advance_53 : decode cX2_advance 53 = .ok (.iload_n 2, 1) := by decide +kernel
theorem dX2_advance_54 : decode cX2_advance 54 = .ok (.ifCond .eq (-26), 3) := by decide +kernel
theorem dX2_advance_57 : decode cX2_advance 57 = .ok (.aload_n 0, 1) := by decide +kernel
theorem dX2_advance_58 : decode cX2_advance 58 = .ok (.invokevirtual 167, 3) := by decide +kernel
theorem dX2_advance_61 : decode cX2_advance 61 = .ok (.ifCond .eq (-33), 3) := by decide +kernel
theorem dX2_advance_64 : decode cX2_advance 64 = .ok (.goto 3, 3) := by decide +kernel
theorem dX2_advance_67 : decode cX2_advance 67 = .ok (.iload_n 3, 1) := by decide +kernel
theorem dX2_advance_68 : decode cX2_advance 68 = .ok (.ireturn, 1) := by decide +kernel
theorem dX2_atBreakpoint_0 : decode cX2_atBreakpoint 0 = .ok (.iconst 0, 1) := by decide +kernel
theorem dX2_atBreakpoint_1 : decode cX2_atBreakpoint 1 = .ok (.istore_n 1, 1) := by decide +kernel
theorem dX2_atBreakpoint_2 : decode cX2_atBreakpoint 2 = .ok (.iload_n 1, 1) := by decide +kernel
theorem dX2_atBreakpoint_3 : decode cX2_atBreakpoint 3 = .ok (.aload_n 0, 1) := by decide +kernel
theorem dX2_atBreakpoint_4 : decode cX2_atBreakpoint 4 = .ok (.getfield 20, 3) := by decide +kernel
theorem dX2_atBreakpoint_7 : decode cX2_atBreakpoint 7 = .ok (.getfield 116, 3) := by decide +kernel
theorem dX2_atBreakpoint_10 : decode cX2_atBreakpoint 10 = .ok (.if_icmp .ge 47, 3) := by decide +kernel
theorem dX2_atBreakpoint_13 : decode cX2_atBreakpoint 13 = .ok (.aload_n 0, 1) := by decide +kernel
theorem dX2_atBreakpoint_14 : decode cX2_atBreakpoint 14 = .ok (.getfield 20, 3) := by decide +kernel
theorem dX2_atBreakpoint_17 : decode cX2_atBreakpoint 17 = .ok (.getfield 125, 3) := by decide +kernel
theorem dX2_atBreakpoint_20 : decode cX2_atBreakpoint 20 = .ok (.iload_n 1, 1) := by decide +kernel
theorem dX2_atBreakpoint_21 : decode cX2_atBreakpoint 21 = .ok (.aaload, 1) := by decide +kernel
theorem dX2_atBreakpoint_22 : decode cX2_atBreakpoint 22 = .ok (.astore_n 2, 1) := by decide +kernel
theorem dX2_atBreakpoint_23 : decode cX2_atBreakpoint 23 = .ok (.aload_n 2, 1) := by decide +kernel
theorem dX2_atBreakpoint_24 : decode cX2_atBreakpoint 24 = .ok (.getfield 137, 3) := by decide +kernel
theorem dX2_atBreakpoint_27 : decode cX2_atBreakpoint 27 = .ok (.ifCond .ne 24, 3) := by decide +kernel
theorem dX2_atBreakpoint_30 : decode cX2_atBreakpoint 30 = .ok (.aload_n 2, 1) := by decide +kernel
theorem dX2_atBreakpoint_31 : decode cX2_atBreakpoint 31 = .ok (.getfield 140, 3) := by decide +kernel
theorem dX2_atBreakpoint_34 : decode cX2_atBreakpoint 34 = .ok (.ifCond .ne 17, 3) := by decide +kernel
theorem dX2_atBreakpoint_37 : decode cX2_atBreakpoint 37 = .ok (.aload_n 0, 1) := by decide +kernel
theorem dX2_atBreakpoint_38 : decode cX2_atBreakpoint 38 = .ok (.getfield 13, 3) := by decide +kernel
theorem dX2_atBreakpoint_41 : decode cX2_atBreakpoint 41 = .ok (.aload_n 2, 1) := by decide +kernel
theorem dX2_atBreakpoint_42 : decode cX2_atBreakpoint 42 = .ok (.invokevirtual 129, 3) := by decide +kernel
theorem dX2_atBreakpoint_45 : decode cX2_atBreakpoint 45 = .ok (.baload, 1) := by decide +kernel
theorem dX2_atBreakpoint_46 : decode cX2_atBreakpoint 46 = .ok (.ifCond .eq 5, 3) := by decide +kernel
theorem dX2_atBreakpoint_49 : decode cX2_atBreakpoint 49 = .ok (.iconst 1, 1) := by decide +kernel
theorem dX2_atBreakpoint_50 : decode cX2_atBreakpoint 50 = .ok (.ireturn, 1) := by decide +kernel
theorem dX2_atBreakpoint_51 : decode cX2_atBreakpoint 51 = .ok (.iinc 1 1, 3) := by decide +kernel
theorem dX2_atBreakpoint_54 : decode cX2_atBreakpoint 54 = .ok (.goto (-52), 3) := by decide +kernel
theorem dX2_atBreakpoint_57 : decode cX2_atBreakpoint 57 = .ok (.iconst 0, 1) := by decide +kernel
theorem dX2_atBreakpoint_58 : decode cX2_atBreakpoint 58 = .ok (.ireturn, 1) := by decide +kernel
theorem dX2_findPeriod_0 : decode cX2_findPeriod 0 = .ok (.aload_n 0, 1) := by decide +kernel
theorem dX2_findPeriod_1 : decode cX2_findPeriod 1 = .ok (.getfield 34, 3) := by decide +kernel
theorem dX2_findPeriod_4 : decode cX2_findPeriod 4 = .ok (.aload_n 0, 1) := by decide +kernel
theorem dX2_findPeriod_5 : decode cX2_findPeriod 5 = .ok (.getfield 20, 3) := by decide +kernel
theorem dX2_findPeriod_8 : decode cX2_findPeriod 8 = .ok (.invokevirtual 91, 3) := by decide +kernel
theorem dX2_findPeriod_11 : decode cX2_findPeriod 11 = .ok (.iconst 0, 1) := by decide +kernel
theorem dX2_findPeriod_12 : decode cX2_findPeriod 12 = .ok (.istore_n 2, 1) := by decide +kernel
theorem dX2_findPeriod_13 : decode cX2_findPeriod 13 = .ok (.iload_n 2, 1) := by decide +kernel
theorem dX2_findPeriod_14 : decode cX2_findPeriod 14 = .ok (.iload_n 1, 1) := by decide +kernel
theorem dX2_findPeriod_15 : decode cX2_findPeriod 15 = .ok (.if_icmp .ge 16, 3) := by decide +kernel
theorem dX2_findPeriod_18 : decode cX2_findPeriod 18 = .ok (.aload_n 0, 1) := by decide +kernel
theorem dX2_findPeriod_19 : decode cX2_findPeriod 19 = .ok (.getfield 34, 3) := by decide +kernel
theorem dX2_findPeriod_22 : decode cX2_findPeriod 22 = .ok (.invokevirtual 102, 3) := by decide +kernel
theorem dX2_findPeriod_25 : decode cX2_findPeriod 25 = .ok (.iinc 2 1, 3) := by decide +kernel
theorem dX2_findPeriod_28 : decode cX2_findPeriod 28 = .ok (.goto (-15), 3) := by decide +kernel
theorem dX2_findPeriod_31 : decode cX2_findPeriod 31 = .ok (.aload_n 0, 1) := by decide +kernel
theorem dX2_findPeriod_32 : decode cX2_findPeriod 32 = .ok (.getfield 34, 3) := by decide +kernel
theorem dX2_findPeriod_35 : decode cX2_findPeriod 35 = .ok (.invokevirtual 98, 3) := by decide +kernel
theorem dX2_findPeriod_38 : decode cX2_findPeriod 38 = .ok (.ifCond .eq 6, 3) := by decide +kernel
theorem dX2_findPeriod_41 : decode cX2_findPeriod 41 = .ok (.bipush (-9), 2) := by decide +kernel
theorem dX2_findPeriod_43 : decode cX2_findPeriod 43 = .ok (.ireturn, 1) := by decide +kernel
theorem dX2_findPeriod_44 : decode cX2_findPeriod 44 = .ok (.aload_n 0, 1) := by decide +kernel
theorem dX2_findPeriod_45 : decode cX2_findPeriod 45 = .ok (.getfield 37, 3) := by decide +kernel
theorem dX2_findPeriod_48 : decode cX2_findPeriod 48 = .ok (.aload_n 0, 1) := by decide +kernel
theorem dX2_findPeriod_49 : decode cX2_findPeriod 49 = .ok (.getfield 34, 3) := by decide +kernel
theorem dX2_findPeriod_52 : decode cX2_findPeriod 52 = .ok (.invokevirtual 91, 3) := by decide +kernel
theorem dX2_findPeriod_55 : decode cX2_findPeriod 55 = .ok (.iconst 1, 1) := by decide +kernel
theorem dX2_findPeriod_56 : decode cX2_findPeriod 56 = .ok (.istore_n 2, 1) := by decide +kernel
theorem dX2_findPeriod_57 : decode cX2_findPeriod 57 = .ok (.iload_n 2, 1) := by decide +kernel
theorem dX2_findPeriod_58 : decode cX2_findPeriod 58 = .ok (.iload_n 1, 1) := by decide +kernel
theorem dX2_findPeriod_59 : decode cX2_findPeriod 59 = .ok (.if_icmp .gt 32, 3) := by decide +kernel
theorem dX2_findPeriod_62 : decode cX2_findPeriod 62 = .ok (.aload_n 0, 1) := by decide +kernel
theorem dX2_findPeriod_63 : decode cX2_findPeriod 63 = .ok (.getfield 37, 3) := by decide +kernel
theorem dX2_findPeriod_66 : decode cX2_findPeriod 66 = .ok (.invokevirtual 102, 3) := by decide +kernel
theorem dX2_findPeriod_69 : decode cX2_findPeriod 69 = .ok (.aload_n 0, 1) := by decide +kernel
theorem dX2_findPeriod_70 : decode cX2_findPeriod 70 = .ok (.getfield 37, 3) := by decide +kernel
theorem dX2_findPeriod_73 : decode cX2_findPeriod 73 = .ok (.aload_n 0, 1) := by decide +kernel
theorem dX2_findPeriod_74 : decode cX2_findPeriod 74 = .ok (.getfield 34, 3) := by decide +kernel
theorem dX2_findPeriod_77 : decode cX2_findPeriod 77 = .ok (.invokevirtual 170, 3) := by decide +kernel
theorem dX2_findPeriod_80 : decode cX2_findPeriod 80 = .ok (.ifCond .eq 5, 3) := by decide +kernel
theorem dX2_findPeriod_83 : decode cX2_findPeriod 83 = .ok (.iload_n 2, 1) := by decide +kernel
theorem dX2_findPeriod_84 : decode cX2_findPeriod 84 = .ok (.ireturn, 1) := by decide +kernel
theorem dX2_findPeriod_85 : decode cX2_findPeriod 85 = .ok (.iinc 2 1, 3) := by decide +kernel
theorem dX2_findPeriod_88 : decode cX2_findPeriod 88 = .ok (.goto (-31), 3) := by decide +kernel
theorem dX2_findPeriod_91 : decode cX2_findPeriod 91 = .ok (.bipush (-9), 2) := by decide +kernel
theorem dX2_findPeriod_93 : decode cX2_findPeriod 93 = .ok (.ireturn, 1) := by decide +kernel
theorem dX2_findCycleEntry_0 : decode cX2_findCycleEntry 0 = .ok (.aload_n 0, 1) := by decide +kernel
theorem dX2_findCycleEntry_1 : decode cX2_findCycleEntry 1 = .ok (.getfield 34, 3) := by decide +kernel
theorem dX2_findCycleEntry_4 : decode cX2_findCycleEntry 4 = .ok (.aload_n 0, 1) := by decide +kernel
theorem dX2_findCycleEntry_5 : decode cX2_findCycleEntry 5 = .ok (.getfield 20, 3) := by decide +kernel
theorem dX2_findCycleEntry_8 : decode cX2_findCycleEntry 8 = .ok (.invokevirtual 91, 3) := by decide +kernel
theorem dX2_findCycleEntry_11 : decode cX2_findCycleEntry 11 = .ok (.aload_n 0, 1) := by decide +kernel
theorem dX2_findCycleEntry_12 : decode cX2_findCycleEntry 12 = .ok (.getfield 37, 3) := by decide +kernel
theorem dX2_findCycleEntry_15 : decode cX2_findCycleEntry 15 = .ok (.aload_n 0, 1) := by decide +kernel
theorem dX2_findCycleEntry_16 : decode cX2_findCycleEntry 16 = .ok (.getfield 20, 3) := by decide +kernel
theorem dX2_findCycleEntry_19 : decode cX2_findCycleEntry 19 = .ok (.invokevirtual 91, 3) := by decide +kernel
theorem dX2_findCycleEntry_22 : decode cX2_findCycleEntry 22 = .ok (.iconst 0, 1) := by decide +kernel
theorem dX2_findCycleEntry_23 : decode cX2_findCycleEntry 23 = .ok (.istore_n 3, 1) := by decide +kernel
theorem dX2_findCycleEntry_24 : decode cX2_findCycleEntry 24 = .ok (.iload_n 3, 1) := by decide +kernel
theorem dX2_findCycleEntry_25 : decode cX2_findCycleEntry 25 = .ok (.iload_n 2, 1) := by decide +kernel
theorem dX2_findCycleEntry_26 : decode cX2_findCycleEntry 26 = .ok (.if_icmp .ge 16, 3) := by decide +kernel
theorem dX2_findCycleEntry_29 : decode cX2_findCycleEntry 29 = .ok (.aload_n 0, 1) := by decide +kernel
theorem dX2_findCycleEntry_30 : decode cX2_findCycleEntry 30 = .ok (.getfield 37, 3) := by decide +kernel
theorem dX2_findCycleEntry_33 : decode cX2_findCycleEntry 33 = .ok (.invokevirtual 102, 3) := by decide +kernel
theorem dX2_findCycleEntry_36 : decode cX2_findCycleEntry 36 = .ok (.iinc 3 1, 3) := by decide +kernel
theorem dX2_findCycleEntry_39 : decode cX2_findCycleEntry 39 = .ok (.goto (-15), 3) := by decide +kernel
theorem dX2_findCycleEntry_42 : decode cX2_findCycleEntry 42 = .ok (.iconst 0, 1) := by decide +kernel
theorem dX2_findCycleEntry_43 : decode cX2_findCycleEntry 43 = .ok (.istore_n 3, 1) := by decide +kernel
theorem dX2_findCycleEntry_44 : decode cX2_findCycleEntry 44 = .ok (.iload_n 3, 1) := by decide +kernel
theorem dX2_findCycleEntry_45 : decode cX2_findCycleEntry 45 = .ok (.iload_n 2, 1) := by decide +kernel
theorem dX2_findCycleEntry_46 : decode cX2_findCycleEntry 46 = .ok (.iadd, 1) := by decide +kernel
theorem dX2_findCycleEntry_47 : decode cX2_findCycleEntry 47 = .ok (.iload_n 1, 1) := by decide +kernel
theorem dX2_findCycleEntry_48 : decode cX2_findCycleEntry 48 = .ok (.if_icmp .gt 39, 3) := by decide +kernel
theorem dX2_findCycleEntry_51 : decode cX2_findCycleEntry 51 = .ok (.aload_n 0, 1) := by decide +kernel
theorem dX2_findCycleEntry_52 : decode cX2_findCycleEntry 52 = .ok (.getfield 37, 3) := by decide +kernel
theorem dX2_findCycleEntry_55 : decode cX2_findCycleEntry 55 = .ok (.aload_n 0, 1) := by decide +kernel
theorem dX2_findCycleEntry_56 : decode cX2_findCycleEntry 56 = .ok (.getfield 34, 3) := by decide +kernel
theorem dX2_findCycleEntry_59 : decode cX2_findCycleEntry 59 = .ok (.invokevirtual 170, 3) := by decide +kernel
theorem dX2_findCycleEntry_62 : decode cX2_findCycleEntry 62 = .ok (.ifCond .eq 5, 3) := by decide +kernel
theorem dX2_findCycleEntry_65 : decode cX2_findCycleEntry 65 = .ok (.iload_n 3, 1) := by decide +kernel
theorem dX2_findCycleEntry_66 : decode cX2_findCycleEntry 66 = .ok (.ireturn, 1) := by decide +kernel
theorem dX2_findCycleEntry_67 : decode cX2_findCycleEntry 67 = .ok (.aload_n 0, 1) := by decide +kernel
theorem dX2_findCycleEntry_68 : decode cX2_findCycleEntry 68 = .ok (.getfield 34, 3) := by decide +kernel
theorem dX2_findCycleEntry_71 : decode cX2_findCycleEntry 71 = .ok (.invokevirtual 102, 3) := by decide +kernel
theorem dX2_findCycleEntry_74 : decode cX2_findCycleEntry 74 = .ok (.aload_n 0, 1) := by decide +kernel
theorem dX2_findCycleEntry_75 : decode cX2_findCycleEntry 75 = .ok (.getfield 37, 3) := by decide +kernel
theorem dX2_findCycleEntry_78 : decode cX2_findCycleEntry 78 = .ok (.invokevirtual 102, 3) := by decide +kernel
theorem dX2_findCycleEntry_81 : decode cX2_findCycleEntry 81 = .ok (.iinc 3 1, 3) := by decide +kernel
theorem dX2_findCycleEntry_84 : decode cX2_findCycleEntry 84 = .ok (.goto (-40), 3) := by decide +kernel
theorem dX2_findCycleEntry_87 : decode cX2_findCycleEntry 87 = .ok (.bipush (-9), 2) := by decide +kernel
theorem dX2_findCycleEntry_89 : decode cX2_findCycleEntry 89 = .ok (.ireturn, 1) := by decide +kernel
end
section
theorem dX3_init_0 : decode cX3_init 0 = .ok (.aload_n 0, 1) := by decide +kernel
theorem dX3_init_1 : decode cX3_init 1 = .ok (.invokespecial 1, 3) := by decide +kernel
theorem dX3_init_4 : decode cX3_init 4 = .ok (.aload_n 0, 1) := by decide +kernel
theorem dX3_init_5 : decode cX3_init 5 = .ok (.sipush 289, 3) := by decide +kernel
theorem dX3_init_8 : decode cX3_init 8 = .ok (.newarray .int, 2) := by decide +kernel
theorem dX3_init_10 : decode cX3_init 10 = .ok (.putfield 7, 3) := by decide +kernel
theorem dX3_init_13 : decode cX3_init 13 = .ok (.aload_n 0, 1) := by decide +kernel
theorem dX3_init_14 : decode cX3_init 14 = .ok (.sipush 289, 3) := by decide +kernel
theorem dX3_init_17 : decode cX3_init 17 = .ok (.newarray .int, 2) := by decide +kernel
theorem dX3_init_19 : decode cX3_init 19 = .ok (.putfield 13, 3) := by decide +kernel
theorem dX3_init_22 : decode cX3_init 22 = .ok (.aload_n 0, 1) := by decide +kernel
theorem dX3_init_23 : decode cX3_init 23 = .ok (.sipush 289, 3) := by decide +kernel
theorem dX3_init_26 : decode cX3_init 26 = .ok (.newarray .int, 2) := by decide +kernel
theorem dX3_init_28 : decode cX3_init 28 = .ok (.putfield 16, 3) := by decide +kernel
theorem dX3_init_31 : decode cX3_init 31 = .ok (.aload_n 0, 1) := by decide +kernel
theorem dX3_init_32 : decode cX3_init 32 = .ok (.sipush 289, 3) := by decide +kernel
theorem dX3_init_35 : decode cX3_init 35 = .ok (.newarray .int, 2) := by decide +kernel
theorem dX3_init_37 : decode cX3_init 37 = .ok (.putfield 19, 3) := by decide +kernel
theorem dX3_init_40 : decode cX3_init 40 = .ok (.aload_n 0, 1) := by decide +kernel
theorem dX3_init_41 : decode cX3_init 41 = .ok (.sipush 1734, 3) := by decide +kernel
theorem dX3_init_44 : decode cX3_init 44 = .ok (.newarray .int, 2) := by decide +kernel
theorem dX3_init_46 : decode cX3_init 46 = .ok (.putfield 22, 3) := by decide +kernel
theorem dX3_init_49 : decode cX3_init 49 = .ok (.aload_n 0, 1) := by decide +kernel
theorem dX3_init_50 : decode cX3_init 50 = .ok (.sipush 578, 3) := by decide +kernel
theorem dX3_init_53 : decode cX3_init 53 = .ok (.newarray .int, 2) := by decide +kernel
theorem dX3_init_55 : decode cX3_init 55 = .ok (.putfield 25, 3) := by decide +kernel
theorem dX3_init_58 : decode cX3_init 58 = .ok (.aload_n 0, 1) := by decide +kernel
theorem dX3_init_59 : decode cX3_init 59 = .ok (.iconst 2, 1) := by decide +kernel
theorem dX3_init_60 : decode cX3_init 60 = .ok (.newarray .boolean, 2) := by decide +kernel
theorem dX3_init_62 : decode cX3_init 62 = .ok (.putfield 28, 3) := by decide +kernel
theorem dX3_init_65 : decode cX3_init 65 = .ok (.aload_n 0, 1) := by decide +kernel
theorem dX3_init_66 : decode cX3_init 66 = .ok (.bipush 72, 2) := by decide +kernel
theorem dX3_init_68 : decode cX3_init 68 = .ok (.newarray .boolean, 2) := by decide +kernel
theorem dX3_init_70 : decode cX3_init 70 = .ok (.putfield 32, 3) := by decide +kernel
theorem dX3_init_73 : decode cX3_init 73 = .ok (.aload_n 0, 1) := by decide +kernel
theorem dX3_init_74 : decode cX3_init 74 = .ok (.bipush 90, 2) := by decide +kernel
theorem dX3_init_76 : decode cX3_init 76 = .ok (.newarray .int, 2) := by decide +kernel
theorem dX3_init_78 : decode cX3_init 78 = .ok (.putfield 35, 3) := by decide +kernel
theorem dX3_init_81 : decode cX3_init 81 = .ok (.aload_n 0, 1) := by decide +kernel
theorem dX3_init_82 : decode cX3_init 82 = .ok (.iconst 4, 1) := by decide +kernel
theorem dX3_init_83 : decode cX3_init 83 = .ok (.newarray .int, 2) := by decide +kernel
theorem dX3_init_85 : decode cX3_init 85 = .ok (.putfield 38, 3) := by decide +kernel
theorem dX3_init_88 : decode cX3_init 88 = .ok (.iconst 0, 1) := by decide +kernel
theorem dX3_init_89 : decode cX3_init 89 = .ok (.istore_n 1, 1) := by decide +kernel
theorem dX3_init_90 : decode cX3_init 90 = .ok (.iload_n 1, 1) := by decide +kernel
theorem dX3_init_91 : decode cX3_init 91 = .ok (.bipush 72, 2) := by decide +kernel
theorem dX3_init_93 : decode cX3_init 93 = .ok (.if_icmp .ge 17, 3) := by decide +kernel
theorem dX3_init_96 : decode cX3_init 96 = .ok (.aload_n 0, 1) := by decide +kernel
theorem dX3_init_97 : decode cX3_init 97 = .ok (.getfield 7, 3) := by decide +kernel
theorem dX3_init_100 : decode cX3_init 100 = .ok (.iload_n 1, 1) := by decide +kernel
theorem dX3_init_101 : decode cX3_init 101 = .ok (.bipush 32, 2) := by decide +kernel
theorem dX3_init_103 : decode cX3_init 103 = .ok (.iastore, 1) := by decide +kernel
theorem dX3_init_104 : decode cX3_init 104 = .ok (.iinc 1 1, 3) := by decide +kernel
theorem dX3_init_107 : decode cX3_init 107 = .ok (.goto (-17), 3) := by decide +kernel
theorem dX3_init_110 : decode cX3_init 110 = .ok (.aload_n 0, 1) := by decide +kernel
theorem dX3_init_111 : decode cX3_init 111 = .ok (.invokevirtual 41, 3) := by decide +kernel
theorem dX3_init_114 : decode cX3_init 114 = .ok (.return_, 1) := by decide +kernel
theorem dX3_in_0 : decode cX3_in 0 = .ok (.iload_n 0, 1) := by decide +kernel
theorem dX3_in_1 : decode cX3_in 1 = .ok (.iload_n 1, 1) := by decide +kernel
theorem dX3_in_2 : decode cX3_in 2 = .ok (.if_icmp .lt 12, 3) := by decide +kernel
theorem dX3_in_5 : decode cX3_in 5 = .ok (.iload_n 0, 1) := by decide +kernel
theorem dX3_in_6 : decode cX3_in 6 = .ok (.iload_n 2, 1) := by decide +kernel
theorem dX3_in_7 : decode cX3_in 7 = .ok (.if_icmp .gt 7, 3) := by decide +kernel
theorem dX3_in_10 : decode cX3_in 10 = .ok (.iconst 1, 1) := by decide +kernel
theorem dX3_in_11 : decode cX3_in 11 = .ok (.goto 4, 3) := by decide +kernel
theorem dX3_in_14 : decode cX3_in 14 = .ok (.iconst 0, 1) := by decide +kernel
theorem dX3_in_15 : decode cX3_in 15 = .ok (.ireturn, 1) := by decide +kernel
theorem dX3_isCell_0 : decode cX3_isCell 0 = .ok (.iload_n 0, 1) := by decide +kernel
theorem dX3_isCell_1 : decode cX3_isCell 1 = .ok (.iconst 0, 1) := by decide +kernel
theorem dX3_isCell_2 : decode cX3_isCell 2 = .ok (.bipush 11, 2) := by decide +kernel
theorem dX3_isCell_4 : decode cX3_isCell 4 = .ok (.invokestatic 44, 3) := by decide +kernel
theorem dX3_isCell_7 : decode cX3_isCell 7 = .ok (.ifCond .eq 16, 3) := by decide +kernel
theorem dX3_isCell_10 : decode cX3_isCell 10 = .ok (.iload_n 1, 1) := by decide +kernel
theorem dX3_isCell_11 : decode cX3_isCell 11 = .ok (.iconst 0, 1) := by decide +kernel
theorem dX3_isCell_12 : decode cX3_isCell 12 = .ok (.iconst 5, 1) := by decide +kernel
theorem dX3_isCell_13 : decode cX3_isCell 13 = .ok (.invokestatic 44, 3) := by decide +kernel
theorem dX3_isCell_16 : decode cX3_isCell 16 = .ok (.ifCond .eq 7, 3) := by decide +kernel
theorem dX3_isCell_19 : decode cX3_isCell 19 = .ok (.iconst 1, 1) := by decide +kernel
theorem dX3_isCell_20 : decode cX3_isCell 20 = .ok (.goto 4, 3) := by decide +kernel
theorem dX3_isCell_23 : decode cX3_isCell 23 = .ok (.iconst 0, 1) := by decide +kernel
theorem dX3_isCell_24 : decode cX3_isCell 24 = .ok (.ireturn, 1) := by decide +kernel
theorem dX3_remember_0 : decode cX3_remember 0 = .ok (.iconst 0, 1) := by decide +kernel
theorem dX3_remember_1 : decode cX3_remember 1 = .ok (.istore_n 1, 1) := by decide +kernel
theorem dX3_remember_2 : decode cX3_remember 2 = .ok (.iload_n 1, 1) := by decide +kernel
theorem dX3_remember_3 : decode cX3_remember 3 = .ok (.sipush 289, 3) := by decide +kernel
theorem dX3_remember_6 : decode cX3_remember 6 = .ok (.if_icmp .ge 21, 3) := by decide +kernel
theorem dX3_remember_9 : decode cX3_remember 9 = .ok (.aload_n 0, 1) := by decide +kernel
theorem dX3_remember_10 : decode cX3_remember 10 = .ok (.getfield 13, 3) := by decide +kernel
theorem dX3_remember_13 : decode cX3_remember 13 = .ok (.iload_n 1, 1) := by decide +kernel
theorem dX3_remember_14 : decode cX3_remember 14 = .ok (.aload_n 0, 1) := by decide +kernel
theorem dX3_remember_15 : decode cX3_remember 15 = .ok (.getfield 7, 3) := by decide +kernel
theorem dX3_remember_18 : decode cX3_remember 18 = .ok (.iload_n 1, 1) := by decide +kernel
theorem dX3_remember_19 : decode cX3_remember 19 = .ok (.iaload, 1) := by decide +kernel
theorem dX3_remember_20 : decode cX3_remember 20 = .ok (.iastore, 1) := by decide +kernel
theorem dX3_remember_21 : decode cX3_remember 21 = .ok (.iinc 1 1, 3) := by decide +kernel
theorem dX3_remember_24 : decode cX3_remember 24 = .ok (.goto (-22), 3) := by decide +kernel
theorem dX3_remember_27 : decode cX3_remember 27 = .ok (.return_, 1) := by decide +kernel
theorem dX3_saveBefore_0 : decode cX3_saveBefore 0 = .ok (.aload_n 0, 1) := by decide +kernel
theorem dX3_saveBefore_1 : decode cX3_saveBefore 1 = .ok (.getfield 48, 3) := by decide +kernel
theorem dX3_saveBefore_4 : decode cX3_saveBefore 4 = .ok (.bipush 6, 2) := by decide +kernel
theorem dX3_saveBefore_6 : decode cX3_saveBefore 6 = .ok (.if_icmp .ne 44, 3) := by decide +kernel
theorem dX3_saveBefore_9 : decode cX3_saveBefore 9 = .ok (.iconst 0, 1) := by decide +kernel
theorem dX3_saveBefore_10 : decode cX3_saveBefore 10 = .ok (.istore_n 1, 1) := by decide +kernel
theorem dX3_saveBefore_11 : decode cX3_saveBefore 11 = .ok (.iload_n 1, 1) := by decide +kernel
theorem dX3_saveBefore_12 : decode cX3_saveBefore 12 = .ok (.sipush 1445, 3) := by decide +kernel
theorem dX3_saveBefore_15 : decode cX3_saveBefore 15 = .ok (.if_icmp .ge 25, 3) := by decide +kernel
theorem dX3_saveBefore_18 : decode cX3_saveBefore 18 = .ok (.aload_n 0, 1) := by decide +kernel
theorem dX3_saveBefore_19 : decode cX3_saveBefore 19 = .ok (.getfield 22, 3) := by decide +kernel
theorem dX3_saveBefore_22 : decode cX3_saveBefore 22 = .ok (.iload_n 1, 1) := by decide +kernel
theorem dX3_saveBefore_23 : decode cX3_saveBefore 23 = .ok (.aload_n 0, 1) := by decide +kernel
theorem dX3_saveBefore_24 : decode cX3_saveBefore 24 = .ok (.getfield 22, 3) := by decide +kernel
theorem dX3_saveBefore_27 : decode cX3_saveBefore 27 = .ok (.iload_n 1, 1) := by decide +kernel
theorem dX3_saveBefore_28 : decode cX3_saveBefore 28 = .ok (.sipush 289, 3) := by decide +kernel
theorem dX3_saveBefore_31 : decode cX3_saveBefore 31 = .ok (.iadd, 1) := by decide +kernel
theorem dX3_saveBefore_32 : decode cX3_saveBefore 32 = .ok (.iaload, 1) := by decide +kernel
theorem dX3_saveBefore_33 : decode cX3_saveBefore 33 = .ok (.iastore, 1) := by decide +kernel
theorem dX3_saveBefore_34 : decode cX3_saveBefore 34 = .ok (.iinc 1 1, 3) := by decide +kernel
theorem dX3_saveBefore_37 : decode cX3_saveBefore 37 = .ok (.goto (-26), 3) := by decide +kernel
theorem dX3_saveBefore_40 : decode cX3_saveBefore 40 = .ok (.aload_n 0, 1) := by decide +kernel
theorem dX3_saveBefore_41 : decode cX3_saveBefore 41 = .ok (.dup, 1) := by decide +kernel
theorem dX3_saveBefore_42 : decode cX3_saveBefore 42 = .ok (.getfield 48, 3) := by decide +kernel
theorem dX3_saveBefore_45 : decode cX3_saveBefore 45 = .ok (.iconst 1, 1) := by decide +kernel
theorem dX3_saveBefore_46 : decode cX3_saveBefore 46 = .ok (.isub, 1) := by decide +kernel
theorem dX3_saveBefore_47 : decode cX3_saveBefore 47 = .ok (.putfield 48, 3) := by decide +kernel
theorem dX3_saveBefore_50 : decode cX3_saveBefore 50 = .ok (.iconst 0, 1) := by decide +kernel
theorem dX3_saveBefore_51 : decode cX3_saveBefore 51 = .ok (.istore_n 1, 1) := by decide +kernel
theorem dX3_saveBefore_52 : decode cX3_saveBefore 52 = .ok (.iload_n 1, 1) := by decide +kernel
theorem dX3_saveBefore_53 : decode cX3_saveBefore 53 = .ok (.sipush 289, 3) := by decide +kernel
theorem dX3_saveBefore_56 : decode cX3_saveBefore 56 = .ok (.if_icmp .ge 30, 3) := by decide +kernel
theorem dX3_saveBefore_59 : decode cX3_saveBefore 59 = .ok (.aload_n 0, 1) := by decide +kernel
theorem dX3_saveBefore_60 : decode cX3_saveBefore 60 = .ok (.getfield 22, 3) := by decide +kernel
theorem dX3_saveBefore_63 : decode cX3_saveBefore 63 = .ok (.sipush 289, 3) := by decide +kernel
theorem dX3_saveBefore_66 : decode cX3_saveBefore 66 = .ok (.aload_n 0, 1) := by decide +kernel
theorem dX3_saveBefore_67 : decode cX3_saveBefore 67 = .ok (.getfield 48, 3) := by decide +kernel
theorem dX3_saveBefore_70 : decode cX3_saveBefore 70 = .ok (.imul, 1) := by decide +kernel
theorem dX3_saveBefore_71 : decode cX3_saveBefore 71 = .ok (.iload_n 1, 1) := by decide +kernel
theorem dX3_saveBefore_72 : decode cX3_saveBefore 72 = .ok (.iadd, 1) := by decide +kernel
theorem dX3_saveBefore_73 : decode cX3_saveBefore 73 = .ok (.aload_n 0, 1) := by decide +kernel
theorem dX3_saveBefore_74 : decode cX3_saveBefore 74 = .ok (.getfield 13, 3) := by decide +kernel
theorem dX3_saveBefore_77 : decode cX3_saveBefore 77 = .ok (.iload_n 1, 1) := by decide +kernel
theorem dX3_saveBefore_78 : decode cX3_saveBefore 78 = .ok (.iaload, 1) := by decide +kernel
theorem dX3_saveBefore_79 : decode cX3_saveBefore 79 = .ok (.iastore, 1) := by decide +kernel
theorem dX3_saveBefore_80 : decode cX3_saveBefore 80 = .ok (.iinc 1 1, 3) := by decide +kernel
theorem dX3_saveBefore_83 : decode cX3_saveBefore 83 = .ok (.goto (-31), 3) := by decide +kernel
theorem dX3_saveBefore_86 : decode cX3_saveBefore 86 = .ok (.aload_n 0, 1) := by decide +kernel
theorem dX3_saveBefore_87 : decode cX3_saveBefore 87 = .ok (.dup, 1) := by decide +kernel
theorem dX3_saveBefore_88 : decode cX3_saveBefore 88 = .ok (.getfield 48, 3) := by decide +kernel
theorem dX3_saveBefore_91 : decode cX3_saveBefore 91 = .ok (.iconst 1, 1) := by decide +kernel
theorem dX3_saveBefore_92 : decode cX3_saveBefore 92 = .ok (.iadd, 1) := by decide +kernel
theorem dX3_saveBefore_93 : decode cX3_saveBefore 93 = .ok (.putfield 48, 3) := by decide +kernel
theorem dX3_saveBefore_96 : decode cX3_saveBefore 96 = .ok (.return_, 1) := by decide +kernel
theorem dX3_undo_0 : decode cX3_undo 0 = .ok (.aload_n 0, 1) := by decide +kernel
theorem dX3_undo_1 : decode cX3_undo 1 = .ok (.getfield 48, 3) := by decide +kernel
theorem dX3_undo_4 : decode cX3_undo 4 = .ok (.ifCond .ne 6, 3) := by decide +kernel
theorem dX3_undo_7 : decode cX3_undo 7 = .ok (.bipush (-2), 2) := by decide +kernel
theorem dX3_undo_9 : decode cX3_undo 9 = .ok (.ireturn, 1) := by decide +kernel
theorem dX3_undo_10 : decode cX3_undo 10 = .ok (.aload_n 0, 1) := by decide +kernel
theorem dX3_undo_11 : decode cX3_undo 11 = .ok (.dup, 1) := by decide +kernel
theorem dX3_undo_12 : decode cX3_undo 12 = .ok (.getfield 48, 3) := by decide +kernel
theorem dX3_undo_15 : decode cX3_undo 15 = .ok (.iconst 1, 1) := by decide +kernel
theorem dX3_undo_16 : decode cX3_undo 16 = .ok (.isub, 1) := by decide +kernel
theorem dX3_undo_17 : decode cX3_undo 17 = .ok (.putfield 48, 3) := by decide +kernel
theorem dX3_undo_20 : decode cX3_undo 20 = .ok (.iconst 0, 1) := by decide +kernel
theorem dX3_undo_21 : decode cX3_undo 21 = .ok (.istore_n 1, 1) := by decide +kernel
theorem dX3_undo_22 : decode cX3_undo 22 = .ok (.iload_n 1, 1) := by decide +kernel
theorem dX3_undo_23 : decode cX3_undo 23 = .ok (.sipush 289, 3) := by decide +kernel
theorem dX3_undo_26 : decode cX3_undo 26 = .ok (.if_icmp .ge 30, 3) := by decide +kernel
theorem dX3_undo_29 : decode cX3_undo 29 = .ok (.aload_n 0, 1) := by decide +kernel
theorem dX3_undo_30 : decode cX3_undo 30 = .ok (.getfield 7, 3) := by decide +kernel
theorem dX3_undo_33 : decode cX3_undo 33 = .ok (.iload_n 1, 1) := by decide +kernel
theorem dX3_undo_34 : decode cX3_undo 34 = .ok (.aload_n 0, 1) := by decide +kernel
theorem dX3_undo_35 : decode cX3_undo 35 = .ok (.getfield 22, 3) := by decide +kernel
theorem dX3_undo_38 : decode cX3_undo 38 = .ok (.sipush 289, 3) := by decide +kernel
theorem dX3_undo_41 : decode cX3_undo 41 = .ok (.aload_n 0, 1) := by decide +kernel
theorem dX3_undo_42 : decode cX3_undo 42 = .ok (.getfield 48, 3) := by decide +kernel
theorem dX3_undo_45 : decode cX3_undo 45 = .ok (.imul, 1) := by decide +kernel
theorem dX3_undo_46 : decode cX3_undo 46 = .ok (.iload_n 1, 1) := by decide +kernel
theorem dX3_undo_47 : decode cX3_undo 47 = .ok (.iadd, 1) := by decide +kernel
theorem dX3_undo_48 : decode cX3_undo 48 = .ok (.iaload, 1) := by decide +kernel
theorem dX3_undo_49 : decode cX3_undo 49 = .ok (.iastore, 1) := by decide +kernel
theorem dX3_undo_50 : decode cX3_undo 50 = .ok (.iinc 1 1, 3) := by decide +kernel
theorem dX3_undo_53 : decode cX3_undo 53 = .ok (.goto (-31), 3) := by decide +kernel
theorem dX3_undo_56 : decode cX3_undo 56 = .ok (.aload_n 0, 1) := by decide +kernel
theorem dX3_undo_57 : decode cX3_undo 57 = .ok (.getfield 48, 3) := by decide +kernel
theorem dX3_undo_60 : decode cX3_undo 60 = .ok (.ireturn, 1) := by decide +kernel
theorem dX3_append_0 : decode cX3_append 0 = .ok (.iload_n 1, 1) := by decide +kernel
theorem dX3_append_1 : decode cX3_append 1 = .ok (.iconst 0, 1) := by decide +kernel
theorem dX3_append_2 : decode cX3_append 2 = .ok (.sipush 255, 3) := by decide +kernel
theorem dX3_append_5 : decode cX3_append 5 = .ok (.invokestatic 44, 3) := by decide +kernel
theorem dX3_append_8 : decode cX3_append 8 = .ok (.ifCond .ne 5, 3) := by decide +kernel
theorem dX3_append_11 : decode cX3_append 11 = .ok (.iconst (-1), 1) := by decide +kernel
theorem dX3_append_12 : decode cX3_append 12 = .ok (.ireturn, 1) := by decide +kernel
theorem dX3_append_13 : decode cX3_append 13 = .ok (.aload_n 0, 1) := by decide +kernel
theorem dX3_append_14 : decode cX3_append 14 = .ok (.getfield 52, 3) := by decide +kernel
theorem dX3_append_17 : decode cX3_append 17 = .ok (.bipush 90, 2) := by decide +kernel
theorem dX3_append_19 : decode cX3_append 19 = .ok (.if_icmp .ne 6, 3) := by decide +kernel
theorem dX3_append_22 : decode cX3_append 22 = .ok (.bipush (-3), 2) := by decide +kernel
theorem dX3_append_24 : decode cX3_append 24 = .ok (.ireturn, 1) := by decide +kernel
theorem dX3_append_25 : decode cX3_append 25 = .ok (.aload_n 0, 1) := by decide +kernel
theorem dX3_append_26 : decode cX3_append 26 = .ok (.getfield 35, 3) := by decide +kernel
theorem dX3_append_29 : decode cX3_append 29 = .ok (.aload_n 0, 1) := by decide +kernel
theorem dX3_append_30 : decode cX3_append 30 = .ok (.getfield 52, 3) := by decide +kernel
theorem dX3_append_33 : decode cX3_append 33 = .ok (.iload_n 1, 1) := by decide +kernel
theorem dX3_append_34 : decode cX3_append 34 = .ok (.iastore, 1) := by decide +kernel
theorem dX3_append_35 : decode cX3_append 35 = .ok (.aload_n 0, 1) := by decide +kernel
theorem dX3_append_36 : decode cX3_append 36 = .ok (.dup, 1) := by decide +kernel
theorem dX3_append_37 : decode cX3_append 37 = .ok (.getfield 52, 3) := by decide +kernel
theorem dX3_append_40 : decode cX3_append 40 = .ok (.iconst 1, 1) := by decide +kernel
theorem dX3_append_41 : decode cX3_append 41 = .ok (.iadd, 1) := by decide +kernel
theorem dX3_append_42 : decode cX3_append 42 = .ok (.putfield 52, 3) := by decide +kernel
theorem dX3_append_45 : decode cX3_append 45 = .ok (.aload_n 0, 1) := by decide +kernel
theorem dX3_append_46 : decode cX3_append 46 = .ok (.getfield 52, 3) := by decide +kernel
theorem dX3_append_49 : decode cX3_append 49 = .ok (.ireturn, 1) := by decide +kernel
theorem dX3_clearText_0 : decode cX3_clearText 0 = .ok (.aload_n 0, 1) := by decide +kernel
theorem dX3_clearText_1 : decode cX3_clearText 1 = .ok (.getfield 52, 3) := by decide +kernel
theorem dX3_clearText_4 : decode cX3_clearText 4 = .ok (.istore_n 1, 1) := by decide +kernel
theorem dX3_clearText_5 : decode cX3_clearText 5 = .ok (.aload_n 0, 1) := by decide +kernel
theorem dX3_clearText_6 : decode cX3_clearText 6 = .ok (.iconst 0, 1) := by decide +kernel
theorem dX3_clearText_7 : decode cX3_clearText 7 = .ok (.putfield 52, 3) := by decide +kernel
theorem dX3_clearText_10 : decode cX3_clearText 10 = .ok (.iload_n 1, 1) := by decide +kernel
theorem dX3_clearText_11 : decode cX3_clearText 11 = .ok (.ireturn, 1) := by decide +kernel
theorem dX3_begin_0 : decode cX3_begin 0 = .ok (.iconst 0, 1) := by decide +kernel
theorem dX3_begin_1 : decode cX3_begin 1 = .ok (.istore_n 1, 1) := by decide +kernel
theorem dX3_begin_2 : decode cX3_begin 2 = .ok (.iload_n 1, 1) := by decide +kernel
theorem dX3_begin_3 : decode cX3_begin 3 = .ok (.bipush 72, 2) := by decide +kernel
theorem dX3_begin_5 : decode cX3_begin 5 = .ok (.if_icmp .ge 24, 3) := by decide +kernel
theorem dX3_begin_8 : decode cX3_begin 8 = .ok (.aload_n 0, 1) := by decide +kernel
theorem dX3_begin_9 : decode cX3_begin 9 = .ok (.getfield 7, 3) := by decide +kernel
theorem dX3_begin_12 : decode cX3_begin 12 = .ok (.bipush 72, 2) := by decide +kernel
theorem dX3_begin_14 : decode cX3_begin 14 = .ok (.iload_n 1, 1) := by decide +kernel
theorem dX3_begin_15 : decode cX3_begin 15 = .ok (.iadd, 1) := by decide +kernel
theorem dX3_begin_16 : decode cX3_begin 16 = .ok (.aload_n 0, 1) := by decide +kernel
theorem dX3_begin_17 : decode cX3_begin 17 = .ok (.getfield 7, 3) := by decide +kernel
theorem dX3_begin_20 : decode cX3_begin 20 = .ok (.iload_n 1, 1) := by decide +kernel
theorem dX3_begin_21 : decode cX3_begin 21 = .ok (.iaload, 1) := by decide +kernel
theorem dX3_begin_22 : decode cX3_begin 22 = .ok (.iastore, 1) := by decide +kernel
theorem dX3_begin_23 : decode cX3_begin 23 = .ok (.iinc 1 1, 3) := by decide +kernel
theorem dX3_begin_26 : decode cX3_begin 26 = .ok (.goto (-24), 3) := by decide +kernel
theorem dX3_begin_29 : decode cX3_begin 29 = .ok (.sipush 144, 3) := by decide +kernel
theorem dX3_begin_32 : decode cX3_begin 32 = .ok (.istore_n 1, 1) := by decide +kernel
theorem dX3_begin_33 : decode cX3_begin 33 = .ok (.iload_n 1, 1) := by decide +kernel
theorem dX3_begin_34 : decode cX3_begin 34 = .ok (.sipush 250, 3) := by decide +kernel
theorem dX3_begin_37 : decode cX3_begin 37 = .ok (.if_icmp .ge 16, 3) := by decide +kernel
theorem dX3_begin_40 : decode cX3_begin 40 = .ok (.aload_n 0, 1) := by decide +kernel
theorem dX3_begin_41 : decode cX3_begin 41 = .ok (.getfield 7, 3) := by decide +kernel
theorem dX3_begin_44 : decode cX3_begin 44 = .ok (.iload_n 1, 1) := by decide +kernel
theorem dX3_begin_45 : decode cX3_begin 45 = .ok (.iconst 0, 1) := by decide +kernel
theorem dX3_begin_46 : decode cX3_begin 46 = .ok (.iastore, 1) := by decide +kernel
theorem dX3_begin_47 : decode cX3_begin 47 = .ok (.iinc 1 1, 3) := by decide +kernel
theorem dX3_begin_50 : decode cX3_begin 50 = .ok (.goto (-17), 3) := by decide +kernel
theorem dX3_begin_53 : decode cX3_begin 53 = .ok (.sipush 267, 3) := by decide +kernel
theorem dX3_begin_56 : decode cX3_begin 56 = .ok (.istore_n 1, 1) := by decide +kernel
theorem dX3_begin_57 : decode cX3_begin 57 = .ok (.iload_n 1, 1) := by decide +kernel
theorem dX3_begin_58 : decode cX3_begin 58 = .ok (.sipush 289, 3) := by decide +kernel
theorem dX3_begin_61 : decode cX3_begin 61 = .ok (.if_icmp .ge 16, 3) := by decide +kernel
theorem dX3_begin_64 : decode cX3_begin 64 = .ok (.aload_n 0, 1) := by decide +kernel
theorem dX3_begin_65 : decode cX3_begin 65 = .ok (.getfield 7, 3) := by decide +kernel
theorem dX3_begin_68 : decode cX3_begin 68 = .ok (.iload_n 1, 1) := by decide +kernel
theorem dX3_begin_69 : decode cX3_begin 69 = .ok (.iconst 0, 1) := by decide +kernel
theorem dX3_begin_70 : decode cX3_begin 70 = .ok (.iastore, 1) := by decide +kernel
theorem dX3_begin_71 : decode cX3_begin 71 = .ok (.iinc 1 1, 3) := by decide +kernel
theorem dX3_begin_74 : decode cX3_begin 74 = .ok (.goto (-17), 3) := by decide +kernel
theorem dX3_begin_77 : decode cX3_begin 77 = .ok (.aload_n 0, 1) := by decide +kernel
theorem dX3_begin_78 : decode cX3_begin 78 = .ok (.getfield 7, 3) := by decide +kernel
theorem dX3_begin_81 : decode cX3_begin 81 = .ok (.sipush 145, 3) := by decide +kernel
theorem dX3_begin_84 : decode cX3_begin 84 = .ok (.iconst 1, 1) := by decide +kernel
theorem dX3_begin_85 : decode cX3_begin 85 = .ok (.iastore, 1) := by decide +kernel
theorem dX3_begin_86 : decode cX3_begin 86 = .ok (.aload_n 0, 1) := by decide +kernel
theorem dX3_begin_87 : decode cX3_begin 87 = .ok (.getfield 7, 3) := by decide +kernel
theorem dX3_begin_90 : decode cX3_begin 90 = .ok (.sipush 155, 3) := by decide +kernel
theorem dX3_begin_93 : decode cX3_begin 93 = .ok (.iconst 1, 1) := by decide +kernel
theorem dX3_begin_94 : decode cX3_begin 94 = .ok (.iastore, 1) := by decide +kernel
theorem dX3_begin_95 : decode cX3_begin 95 = .ok (.return_, 1) := by decide +kernel
theorem dX3_errorPosition_0 : decode cX3_errorPosition 0 = .ok (.iconst 0, 1) := by decide +kernel
theorem dX3_errorPosition_1 : decode cX3_errorPosition 1 = .ok (.istore_n 1, 1) := by decide +kernel
theorem dX3_errorPosition_2 : decode cX3_errorPosition 2 = .ok (.iconst 0, 1) := by decide +kernel
theorem dX3_errorPosition_3 : decode cX3_errorPosition 3 = .ok (.istore_n 2, 1) := by decide +kernel
theorem dX3_errorPosition_4 : decode cX3_errorPosition 4 = .ok (.iconst 0, 1) := by decide +kernel
theorem dX3_errorPosition_5 : decode cX3_errorPosition 5 = .ok (.istore_n 3, 1) := by decide +kernel
theorem dX3_errorPosition_6 : decode cX3_errorPosition 6 = .ok (.iload_n 3, 1) := by decide +kernel
theorem dX3_errorPosition_7 : decode cX3_errorPosition 7 = .ok (.aload_n 0, 1) := by decide +kernel
theorem dX3_errorPosition_8 : decode cX3_errorPosition 8 = .ok (.getfield 52, 3) := by decide +kernel
theorem dX3_errorPosition_11 : decode cX3_errorPosition 11 = .ok (.if_icmp .ge 100, 3) := by decide +kernel
theorem dX3_errorPosition_14 : decode cX3_errorPosition 14 = .ok (.aload_n 0, 1) := by decide +kernel
theorem dX3_errorPosition_15 : decode cX3_errorPosition 15 = .ok (.getfield 35, 3) := by decide +kernel
theorem dX3_errorPosition_18 : decode cX3_errorPosition 18 = .ok (.iload_n 3, 1) := by decide +kernel
theorem dX3_errorPosition_19 : decode cX3_errorPosition 19 = .ok (.iaload, 1) := by decide +kernel
theorem dX3_errorPosition_20 : decode cX3_errorPosition 20 = .ok (.bipush 10, 2) := by decide +kernel
theorem dX3_errorPosition_22 : decode cX3_errorPosition 22 = .ok (.if_icmp .ne 7, 3) := by decide +kernel
theorem dX3_errorPosition_25 : decode cX3_errorPosition 25 = .ok (.iconst 1, 1) := by decide +kernel
theorem dX3_errorPosition_26 : decode cX3_errorPosition 26 = .ok (.goto 4, 3) := by decide +kernel
theorem dX3_errorPosition_29 : decode cX3_errorPosition 29 = .ok (.iconst 0, 1) := by decide +kernel
theorem dX3_errorPosition_30 : decode cX3_errorPosition 30 = .ok (.istore 4, 2) := by decide +kernel
theorem dX3_errorPosition_32 : decode cX3_errorPosition 32 = .ok (.iload_n 1, 1) := by decide +kernel
theorem dX3_errorPosition_33 : decode cX3_errorPosition 33 = .ok (.bipush 6, 2) := by decide +kernel
theorem dX3_errorPosition_35 : decode cX3_errorPosition 35 = .ok (.if_icmp .ge 34, 3) := by decide +kernel
theorem dX3_errorPosition_38 : decode cX3_errorPosition 38 = .ok (.iload 4, 2) := by decide +kernel
theorem dX3_errorPosition_40 : decode cX3_errorPosition 40 = .ok (.ifCond .ne 25, 3) := by decide +kernel
theorem dX3_errorPosition_43 : decode cX3_errorPosition 43 = .ok (.aload_n 0, 1) := by decide +kernel
theorem dX3_errorPosition_44 : decode cX3_errorPosition 44 = .ok (.getfield 35, 3) := by decide +kernel
theorem dX3_errorPosition_47 : decode cX3_errorPosition 47 = .ok (.iload_n 3, 1) := by decide +kernel
theorem dX3_errorPosition_48 : decode cX3_errorPosition 48 = .ok (.iaload, 1) := by decide +kernel
theorem dX3_errorPosition_49 : decode cX3_errorPosition 49 = .ok (.bipush 32, 2) := by decide +kernel
theorem dX3_errorPosition_51 : decode cX3_errorPosition 51 = .ok (.bipush 126, 2) := by decide +kernel
theorem dX3_errorPosition_53 : decode cX3_errorPosition 53 = .ok (.invokestatic 44, 3) := by decide +kernel
theorem dX3_errorPosition_56 : decode cX3_errorPosition 56 = .ok (.ifCond .eq 13, 3) := by decide +kernel
theorem dX3_errorPosition_59 : decode cX3_errorPosition 59 = .ok (.iload_n 2, 1) := by decide +kernel
theorem dX3_errorPosition_60 : decode cX3_errorPosition 60 = .ok (.bipush 12, 2) := by decide +kernel
theorem dX3_errorPosition_62 : decode cX3_errorPosition 62 = .ok (.if_icmp .ge 7, 3) := by decide +kernel
theorem dX3_errorPosition_65 : decode cX3_errorPosition 65 = .ok (.iconst 1, 1) := by decide +kernel
theorem dX3_errorPosition_66 : decode cX3_errorPosition 66 = .ok (.goto 4, 3) := by decide +kernel
theorem dX3_errorPosition_69 : decode cX3_errorPosition 69 = .ok (.iconst 0, 1) := by decide +kernel
theorem dX3_errorPosition_70 : decode cX3_errorPosition 70 = .ok (.istore 5, 2) := by decide +kernel
theorem dX3_errorPosition_72 : decode cX3_errorPosition 72 = .ok (.iload 5, 2) := by decide +kernel
theorem dX3_errorPosition_74 : decode cX3_errorPosition 74 = .ok (.ifCond .ne 5, 3) := by decide +kernel
theorem dX3_errorPosition_77 : decode cX3_errorPosition 77 = .ok (.iload_n 3, 1) := by decide +kernel
theorem dX3_errorPosition_78 : decode cX3_errorPosition 78 = .ok (.ireturn, 1) := by decide +kernel
theorem dX3_errorPosition_79 : decode cX3_errorPosition 79 = .ok (.iload_n 1, 1) := by decide +kernel
theorem dX3_errorPosition_80 : decode cX3_errorPosition 80 = .ok (.iload 4, 2) := by decide +kernel
theorem dX3_errorPosition_82 : decode cX3_errorPosition 82 = .ok (.ifCond .eq 7, 3) := by decide +kernel
theorem dX3_errorPosition_85 : decode cX3_errorPosition 85 = .ok (.iconst 1, 1) := by decide +kernel
theorem dX3_errorPosition_86 : decode cX3_errorPosition 86 = .ok (.goto 4, 3) := by decide +kernel
theorem dX3_errorPosition_89 : decode cX3_errorPosition 89 = .ok (.iconst 0, 1) := by decide +kernel
theorem dX3_errorPosition_90 : decode cX3_errorPosition 90 = .ok (.iadd, 1) := by decide +kernel
theorem dX3_errorPosition_91 : decode cX3_errorPosition 91 = .ok (.istore_n 1, 1) := by decide +kernel
theorem dX3_errorPosition_92 : decode cX3_errorPosition 92 = .ok (.iload 4, 2) := by decide +kernel
theorem dX3_errorPosition_94 : decode cX3_errorPosition 94 = .ok (.ifCond .eq 7, 3) := by decide +kernel
theorem dX3_errorPosition_97 : decode cX3_errorPosition 97 = .ok (.iconst 0, 1) := by decide +kernel
theorem dX3_errorPosition_98 : decode cX3_errorPosition 98 = .ok (.goto 6, 3) := by decide +kernel
theorem dX3_errorPosition_101 : decode cX3_errorPosition 101 = .ok (.iload_n 2, 1) := by decide +kernel
theorem dX3_errorPosition_102 : decode cX3_errorPosition 102 = .ok (.iconst 1, 1) := by decide +kernel
theorem dX3_errorPosition_103 : decode cX3_errorPosition 103 = .ok (.iadd, 1) := by decide +kernel
theorem dX3_errorPosition_104 : decode cX3_errorPosition 104 = .ok (.istore_n 2, 1) := by decide +kernel
theorem dX3_errorPosition_105 : decode cX3_errorPosition 105 = .ok (.iinc 3 1, 3) := by decide +kernel
theorem dX3_errorPosition_108 : decode cX3_errorPosition 108 = .ok (.goto (-102), 3) := by decide +kernel
theorem dX3_errorPosition_111 : decode cX3_errorPosition 111 = .ok (.bipush (-9), 2) := by decide +kernel
theorem dX3_errorPosition_113 : decode cX3_errorPosition 113 = .ok (.ireturn, 1) := by decide +kernel
theorem dX3_load_0 : decode cX3_load 0 = .ok (.aload_n 0, 1) := by decide +kernel
theorem dX3_load_1 : decode cX3_load 1 = .ok (.invokevirtual 55, 3) := by decide +kernel
theorem dX3_load_4 : decode cX3_load 4 = .ok (.istore_n 1, 1) := by decide +kernel
theorem dX3_load_5 : decode cX3_load 5 = .ok (.iload_n 1, 1) := by decide +kernel
theorem dX3_load_6 : decode cX3_load 6 = .ok (.bipush (-9), 2) := by decide +kernel
theorem dX3_load_8 : decode cX3_load 8 = .ok (.if_icmp .eq 8, 3) := by decide +kernel
theorem dX3_load_11 : decode cX3_load 11 = .ok (.bipush (-10), 2) := by decide +kernel
theorem dX3_load_13 : decode cX3_load 13 = .ok (.iload_n 1, 1) := by decide +kernel
theorem dX3_load_14 : decode cX3_load 14 = .ok (.isub, 1) := by decide +kernel
theorem dX3_load_15 : decode cX3_load 15 = .ok (.ireturn, 1) := by decide +kernel
theorem dX3_load_16 : decode cX3_load 16 = .ok (.aload_n 0, 1) := by decide +kernel
theorem dX3_load_17 : decode cX3_load 17 = .ok (.invokevirtual 59, 3) := by decide +kernel
theorem dX3_load_20 : decode cX3_load 20 = .ok (.iconst 0, 1) := by decide +kernel
theorem dX3_load_21 : decode cX3_load 21 = .ok (.istore_n 2, 1) := by decide +kernel
theorem dX3_load_22 : decode cX3_load 22 = .ok (.iload_n 2, 1) := by decide +kernel
theorem dX3_load_23 : decode cX3_load 23 = .ok (.bipush 72, 2) := by decide +kernel
theorem dX3_load_25 : decode cX3_load 25 = .ok (.if_icmp .ge 17, 3) := by decide +kernel
theorem dX3_load_28 : decode cX3_load 28 = .ok (.aload_n 0, 1) := by decide +kernel
theorem dX3_load_29 : decode cX3_load 29 = .ok (.getfield 7, 3) := by decide +kernel
theorem dX3_load_32 : decode cX3_load 32 = .ok (.iload_n 2, 1) := by decide +kernel
theorem dX3_load_33 : decode cX3_load 33 = .ok (.bipush 32, 2) := by decide +kernel
theorem dX3_load_35 : decode cX3_load 35 = .ok (.iastore, 1) := by decide +kernel
theorem dX3_load_36 : decode cX3_load 36 = .ok (.iinc 2 1, 3) := by decide +kernel
theorem dX3_load_39 : decode cX3_load 39 = .ok (.goto (-17), 3) := by decide +kernel
theorem dX3_load_42 : decode cX3_load 42 = .ok (.iconst 0, 1) := by decide +kernel
theorem dX3_load_43 : decode cX3_load 43 = .ok (.istore_n 2, 1) := by decide +kernel
theorem dX3_load_44 : decode cX3_load 44 = .ok (.iconst 0, 1) := by decide +kernel
theorem dX3_load_45 : decode cX3_load 45 = .ok (.istore_n 3, 1) := by decide +kernel
theorem dX3_load_46 : decode cX3_load 46 = .ok (.iconst 0, 1) := by decide +kernel
theorem dX3_load_47 : decode cX3_load 47 = .ok (.istore 4, 2) := by decide +kernel
theorem dX3_load_49 : decode cX3_load 49 = .ok (.iconst 0, 1) := by decide +kernel
theorem dX3_load_50 : decode cX3_load 50 = .ok (.istore 5, 2) := by decide +kernel
theorem dX3_load_52 : decode cX3_load 52 = .ok (.iload 5, 2) := by decide +kernel
theorem dX3_load_54 : decode cX3_load 54 = .ok (.aload_n 0, 1) := by decide +kernel
theorem dX3_load_55 : decode cX3_load 55 = .ok (.getfield 52, 3) := by decide +kernel
theorem dX3_load_58 : decode cX3_load 58 = .ok (.if_icmp .ge 72, 3) := by decide +kernel
theorem dX3_load_61 : decode cX3_load 61 = .ok (.aload_n 0, 1) := by decide +kernel
theorem dX3_load_62 : decode cX3_load 62 = .ok (.getfield 35, 3) := by decide +kernel
theorem dX3_load_65 : decode cX3_load 65 = .ok (.iload 5, 2) := by decide +kernel
theorem dX3_load_67 : decode cX3_load 67 = .ok (.iaload, 1) := by decide +kernel
theorem dX3_load_68 : decode cX3_load 68 = .ok (.bipush 10, 2) := by decide +kernel
theorem dX3_load_70 : decode cX3_load 70 = .ok (.if_icmp .ne 11, 3) := by decide +kernel
theorem dX3_load_73 : decode cX3_load 73 = .ok (.iinc 2 1, 3) := by decide +kernel
theorem dX3_load_76 : decode cX3_load 76 = .ok (.iconst 0, 1) := by decide +kernel
theorem dX3_load_77 : decode cX3_load 77 = .ok (.istore_n 3, 1) := by decide +kernel
theorem dX3_load_78 : decode cX3_load 78 = .ok (.goto 46, 3) := by decide +kernel
theorem dX3_load_81 : decode cX3_load 81 = .ok (.aload_n 0, 1) := by decide +kernel
theorem dX3_load_82 : decode cX3_load 82 = .ok (.getfield 7, 3) := by decide +kernel
theorem dX3_load_85 : decode cX3_load 85 = .ok (.bipush 12, 2) := by decide +kernel
theorem dX3_load_87 : decode cX3_load 87 = .ok (.iload_n 2, 1) := by decide +kernel
theorem dX3_load_88 : decode cX3_load 88 = .ok (.imul, 1) := by decide +kernel
theorem dX3_load_89 : decode cX3_load 89 = .ok (.iload_n 3, 1) := by decide +kernel
theorem dX3_load_90 : decode cX3_load 90 = .ok (.iadd, 1) := by decide +kernel
theorem dX3_load_91 : decode cX3_load 91 = .ok (.aload_n 0, 1) := by decide +kernel
theorem dX3_load_92 : decode cX3_load 92 = .ok (.getfield 35, 3) := by decide +kernel
theorem dX3_load_95 : decode cX3_load 95 = .ok (.iload 5, 2) := by decide +kernel
theorem dX3_load_97 : decode cX3_load 97 = .ok (.iaload, 1) := by decide +kernel
theorem dX3_load_98 : decode cX3_load 98 = .ok (.iastore, 1) := by decide +kernel
theorem dX3_load_99 : decode cX3_load 99 = .ok (.iload 4, 2) := by decide +kernel
theorem dX3_load_101 : decode cX3_load 101 = .ok (.aload_n 0, 1) := by decide +kernel
theorem dX3_load_102 : decode cX3_load 102 = .ok (.getfield 35, 3) := by decide +kernel
theorem dX3_load_105 : decode cX3_load 105 = .ok (.iload 5, 2) := by decide +kernel
theorem dX3_load_107 : decode cX3_load 107 = .ok (.iaload, 1) := by decide +kernel
theorem dX3_load_108 : decode cX3_load 108 = .ok (.bipush 32, 2) := by decide +kernel
theorem dX3_load_110 : decode cX3_load 110 = .ok (.if_icmp .ne 7, 3) := by decide +kernel
theorem dX3_load_113 : decode cX3_load 113 = .ok (.iconst 0, 1) := by decide +kernel
theorem dX3_load_114 : decode cX3_load 114 = .ok (.goto 4, 3) := by decide +kernel
theorem dX3_load_117 : decode cX3_load 117 = .ok (.iconst 1, 1) := by decide +kernel
theorem dX3_load_118 : decode cX3_load 118 = .ok (.iadd, 1) := by decide +kernel
theorem dX3_load_119 : decode cX3_load 119 = .ok (.istore 4, 2) := by decide +kernel
theorem dX3_load_121 : decode cX3_load 121 = .ok (.iinc 3 1, 3) := by decide +kernel
theorem dX3_load_124 : decode cX3_load 124 = .ok (.iinc 5 1, 3) := by decide +kernel
theorem dX3_load_127 : decode cX3_load 127 = .ok (.goto (-75), 3) := by decide +kernel
theorem dX3_load_130 : decode cX3_load 130 = .ok (.aload_n 0, 1) := by decide +kernel
theorem dX3_load_131 : decode cX3_load 131 = .ok (.invokevirtual 41, 3) := by decide +kernel
theorem dX3_load_134 : decode cX3_load 134 = .ok (.sipush 250, 3) := by decide +kernel
theorem dX3_load_137 : decode cX3_load 137 = .ok (.istore 5, 2) := by decide +kernel
theorem dX3_load_139 : decode cX3_load 139 = .ok (.iload 5, 2) := by decide +kernel
theorem dX3_load_141 : decode cX3_load 141 = .ok (.sipush 267, 3) := by decide +kernel
theorem dX3_load_144 : decode cX3_load 144 = .ok (.if_icmp .ge 17, 3) := by decide +kernel
theorem dX3_load_147 : decode cX3_load 147 = .ok (.aload_n 0, 1) := by decide +kernel
theorem dX3_load_148 : decode cX3_load 148 = .ok (.getfield 7, 3) := by decide +kernel
theorem dX3_load_151 : decode cX3_load 151 = .ok (.iload 5, 2) := by decide +kernel
theorem dX3_load_153 : decode cX3_load 153 = .ok (.iconst 0, 1) := by decide +kernel
theorem dX3_load_154 : decode cX3_load 154 = .ok (.iastore, 1) := by decide +kernel
theorem dX3_load_155 : decode cX3_load 155 = .ok (.iinc 5 1, 3) := by decide +kernel
theorem dX3_load_158 : decode cX3_load 158 = .ok (.goto (-19), 3) := by decide +kernel
theorem dX3_load_161 : decode cX3_load 161 = .ok (.aload_n 0, 1) := by decide +kernel
theorem dX3_load_162 : decode cX3_load 162 = .ok (.iconst 0, 1) := by decide +kernel
theorem dX3_load_163 : decode cX3_load 163 = .ok (.putfield 52, 3) := by decide +kernel
theorem dX3_load_166 : decode cX3_load 166 = .ok (.aload_n 0, 1) := by decide +kernel
theorem dX3_load_167 : decode cX3_load 167 = .ok (.invokevirtual 62, 3) := by decide +kernel
theorem dX3_load_170 : decode cX3_load 170 = .ok (.iload 4, 2) := by decide +kernel
theorem dX3_load_172 : decode cX3_load 172 = .ok (.ireturn, 1) := by decide +kernel
theorem dX3_rewind_0 : decode cX3_rewind 0 = .ok (.aload_n 0, 1) := by decide +kernel
theorem dX3_rewind_1 : decode cX3_rewind 1 = .ok (.invokevirtual 59, 3) := by decide +kernel
theorem dX3_rewind_4 : decode cX3_rewind 4 = .ok (.aload_n 0, 1) := by decide +kernel
theorem dX3_rewind_5 : decode cX3_rewind 5 = .ok (.getfield 7, 3) := by decide +kernel
theorem dX3_rewind_8 : decode cX3_rewind 8 = .ok (.sipush 144, 3) := by decide +kernel
theorem dX3_rewind_11 : decode cX3_rewind 11 = .ok (.iaload, 1) := by decide +kernel
theorem dX3_rewind_12 : decode cX3_rewind 12 = .ok (.istore_n 1, 1) := by decide +kernel
theorem dX3_rewind_13 : decode cX3_rewind 13 = .ok (.aload_n 0, 1) := by decide +kernel
theorem dX3_rewind_14 : decode cX3_rewind 14 = .ok (.invokevirtual 41, 3) := by decide +kernel
theorem dX3_rewind_17 : decode cX3_rewind 17 = .ok (.aload_n 0, 1) := by decide +kernel
theorem dX3_rewind_18 : decode cX3_rewind 18 = .ok (.invokevirtual 62, 3) := by decide +kernel
theorem dX3_rewind_21 : decode cX3_rewind 21 = .ok (.iload_n 1, 1) := by decide +kernel
theorem dX3_rewind_22 : decode cX3_rewind 22 = .ok (.ireturn, 1) := by decide +kernel
theorem dX3_feed_0 : decode cX3_feed 0 = .ok (.aload_n 0, 1) := by decide +kernel
theorem dX3_feed_1 : decode cX3_feed 1 = .ok (.getfield 7, 3) := by decide +kernel
theorem dX3_feed_4 : decode cX3_feed 4 = .ok (.sipush 250, 3) := by decide +kernel
theorem dX3_feed_7 : decode cX3_feed 7 = .ok (.iaload, 1) := by decide +kernel
theorem dX3_feed_8 : decode cX3_feed 8 = .ok (.bipush 16, 2) := by decide +kernel
theorem dX3_feed_10 : decode cX3_feed 10 = .ok (.if_icmp .ne 6, 3) := by decide +kernel
theorem dX3_feed_13 : decode cX3_feed 13 = .ok (.bipush (-3), 2) := by decide +kernel
theorem dX3_feed_15 : decode cX3_feed 15 = .ok (.ireturn, 1) := by decide +kernel
theorem dX3_feed_16 : decode cX3_feed 16 = .ok (.aload_n 0, 1) := by decide +kernel
theorem dX3_feed_17 : decode cX3_feed 17 = .ok (.invokevirtual 59, 3) := by decide +kernel
theorem dX3_feed_20 : decode cX3_feed 20 = .ok (.aload_n 0, 1) := by decide +kernel
theorem dX3_feed_21 : decode cX3_feed 21 = .ok (.getfield 7, 3) := by decide +kernel
theorem dX3_feed_24 : decode cX3_feed 24 = .ok (.sipush 250, 3) := by decide +kernel
theorem dX3_feed_27 : decode cX3_feed 27 = .ok (.dup2, 1) := by decide +kernel
theorem dX3_feed_28 : decode cX3_feed 28 = .ok (.iaload, 1) := by decide +kernel
theorem dX3_feed_29 : decode cX3_feed 29 = .ok (.iconst 1, 1) := by decide +kernel
theorem dX3_feed_30 : decode cX3_feed 30 = .ok (.iadd, 1) := by decide +kernel
theorem dX3_feed_31 : decode cX3_feed 31 = .ok (.iastore, 1) := by decide +kernel
theorem dX3_feed_32 : decode cX3_feed 32 = .ok (.aload_n 0, 1) := by decide +kernel
theorem dX3_feed_33 : decode cX3_feed 33 = .ok (.getfield 7, 3) := by decide +kernel
theorem dX3_feed_36 : decode cX3_feed 36 = .ok (.sipush 250, 3) := by decide +kernel
theorem dX3_feed_39 : decode cX3_feed 39 = .ok (.aload_n 0, 1) := by decide +kernel
theorem dX3_feed_40 : decode cX3_feed 40 = .ok (.getfield 7, 3) := by decide +kernel
theorem dX3_feed_43 : decode cX3_feed 43 = .ok (.sipush 250, 3) := by decide +kernel
theorem dX3_feed_46 : decode cX3_feed 46 = .ok (.iaload, 1) := by decide +kernel
theorem dX3_feed_47 : decode cX3_feed 47 = .ok (.iadd, 1) := by decide +kernel
theorem dX3_feed_48 : decode cX3_feed 48 = .ok (.iload_n 1, 1) := by decide +kernel
theorem dX3_feed_49 : decode cX3_feed 49 = .ok (.iastore, 1) := by decide +kernel
theorem dX3_feed_50 : decode cX3_feed 50 = .ok (.aload_n 0, 1) := by decide +kernel
theorem dX3_feed_51 : decode cX3_feed 51 = .ok (.invokevirtual 62, 3) := by decide +kernel
theorem dX3_feed_54 : decode cX3_feed 54 = .ok (.aload_n 0, 1) := by decide +kernel
theorem dX3_feed_55 : decode cX3_feed 55 = .ok (.getfield 7, 3) := by decide +kernel
theorem dX3_feed_58 : decode cX3_feed 58 = .ok (.sipush 250, 3) := by decide +kernel
theorem dX3_feed_61 : decode cX3_feed 61 = .ok (.iaload, 1) := by decide +kernel
theorem dX3_feed_62 : decode cX3_feed 62 = .ok (.ireturn, 1) := by decide +kernel
theorem dX3_poke_0 : decode cX3_poke 0 = .ok (.iload_n 1, 1) := by decide +kernel
theorem dX3_poke_1 : decode cX3_poke 1 = .ok (.iload_n 2, 1) := by decide +kernel
theorem dX3_poke_2 : decode cX3_poke 2 = .ok (.invokestatic 65, 3) := by decide +kernel
theorem dX3_poke_5 : decode cX3_poke 5 = .ok (.ifCond .eq 14, 3) := by decide +kernel
theorem dX3_poke_8 : decode cX3_poke 8 = .ok (.iload_n 3, 1) := by decide +kernel
theorem dX3_poke_9 : decode cX3_poke 9 = .ok (.bipush 32, 2) := by decide +kernel
theorem dX3_poke_11 : decode cX3_poke 11 = .ok (.bipush 126, 2) := by decide +kernel
theorem dX3_poke_13 : decode cX3_poke 13 = .ok (.invokestatic 44, 3) := by decide +kernel
theorem dX3_poke_16 : decode cX3_poke 16 = .ok (.ifCond .ne 5, 3) := by decide +kernel
theorem dX3_poke_19 : decode cX3_poke 19 = .ok (.iconst (-1), 1) := by decide +kernel
theorem dX3_poke_20 : decode cX3_poke 20 = .ok (.ireturn, 1) := by decide +kernel
theorem dX3_poke_21 : decode cX3_poke 21 = .ok (.aload_n 0, 1) := by decide +kernel
theorem dX3_poke_22 : decode cX3_poke 22 = .ok (.invokevirtual 59, 3) := by decide +kernel
theorem dX3_poke_25 : decode cX3_poke 25 = .ok (.bipush 72, 2) := by decide +kernel
theorem dX3_poke_27 : decode cX3_poke 27 = .ok (.bipush 12, 2) := by decide +kernel
theorem dX3_poke_29 : decode cX3_poke 29 = .ok (.iload_n 2, 1) := by decide +kernel
theorem dX3_poke_30 : decode cX3_poke 30 = .ok (.imul, 1) := by decide +kernel
theorem dX3_poke_31 : decode cX3_poke 31 = .ok (.iadd, 1) := by decide +kernel
theorem dX3_poke_32 : decode cX3_poke 32 = .ok (.iload_n 1, 1) := by decide +kernel
theorem dX3_poke_33 : decode cX3_poke 33 = .ok (.iadd, 1) := by decide +kernel
theorem dX3_poke_34 : decode cX3_poke 34 = .ok (.istore 4, 2) := by decide +kernel
theorem dX3_poke_36 : decode cX3_poke 36 = .ok (.aload_n 0, 1) := by decide +kernel
theorem dX3_poke_37 : decode cX3_poke 37 = .ok (.getfield 7, 3) := by decide +kernel
theorem dX3_poke_40 : decode cX3_poke 40 = .ok (.iload 4, 2) := by decide +kernel
theorem dX3_poke_42 : decode cX3_poke 42 = .ok (.iaload, 1) := by decide +kernel
theorem dX3_poke_43 : decode cX3_poke 43 = .ok (.istore 5, 2) := by decide +kernel
theorem dX3_poke_45 : decode cX3_poke 45 = .ok (.aload_n 0, 1) := by decide +kernel
theorem dX3_poke_46 : decode cX3_poke 46 = .ok (.getfield 7, 3) := by decide +kernel
theorem dX3_poke_49 : decode cX3_poke 49 = .ok (.iload 4, 2) := by decide +kernel
theorem dX3_poke_51 : decode cX3_poke 51 = .ok (.iload_n 3, 1) := by decide +kernel
theorem dX3_poke_52 : decode cX3_poke 52 = .ok (.iastore, 1) := by decide +kernel
theorem dX3_poke_53 : decode cX3_poke 53 = .ok (.aload_n 0, 1) := by decide +kernel
theorem dX3_poke_54 : decode cX3_poke 54 = .ok (.invokevirtual 62, 3) := by decide +kernel
theorem dX3_poke_57 : decode cX3_poke 57 = .ok (.iload 5, 2) := by decide +kernel
theorem dX3_poke_59 : decode cX3_poke 59 = .ok (.ireturn, 1) := by decide +kernel
theorem dX3_of_0 : decode cX3_of 0 = .ok (.aload_n 0, 1) := by decide +kernel
theorem dX3_of_1 : decode cX3_of 1 = .ok (.getfield 7, 3) := by decide +kernel
theorem dX3_of_4 : decode cX3_of 4 = .ok (.sipush 150, 3) := by decide +kernel
theorem dX3_of_7 : decode cX3_of 7 = .ok (.bipush 25, 2) := by decide +kernel
theorem dX3_of_9 : decode cX3_of 9 = .ok (.iload_n 1, 1) := by decide +kernel
theorem dX3_of_10 : decode cX3_of 10 = .ok (.imul, 1) := by decide +kernel
theorem dX3_of_11 : decode cX3_of 11 = .ok (.iadd, 1) := by decide +kernel
theorem dX3_of_12 : decode cX3_of 12 = .ok (.iload_n 2, 1) := by decide +kernel
theorem dX3_of_13 : decode cX3_of 13 = .ok (.iadd, 1) := by decide +kernel
theorem dX3_of_14 : decode cX3_of 14 = .ok (.iaload, 1) := by decide +kernel
theorem dX3_of_15 : decode cX3_of 15 = .ok (.ireturn, 1) := by decide +kernel
theorem dX3_put_0 : decode cX3_put 0 = .ok (.aload_n 0, 1) := by decide +kernel
theorem dX3_put_1 : decode cX3_put 1 = .ok (.getfield 7, 3) := by decide +kernel
theorem dX3_put_4 : decode cX3_put 4 = .ok (.sipush 150, 3) := by decide +kernel
theorem dX3_put_7 : decode cX3_put 7 = .ok (.bipush 25, 2) := by decide +kernel
theorem dX3_put_9 : decode cX3_put 9 = .ok (.iload_n 1, 1) := by decide +kernel
theorem dX3_put_10 : decode cX3_put 10 = .ok (.imul, 1) := by decide +kernel
theorem dX3_put_11 : decode cX3_put 11 = .ok (.iadd, 1) := by decide +kernel
theorem dX3_put_12 : decode cX3_put 12 = .ok (.iload_n 2, 1) := by decide +kernel
theorem dX3_put_13 : decode cX3_put 13 = .ok (.iadd, 1) := by decide +kernel
theorem dX3_put_14 : decode cX3_put 14 = .ok (.iload_n 3, 1) := by decide +kernel
theorem dX3_put_15 : decode cX3_put 15 = .ok (.iastore, 1) := by decide +kernel
theorem dX3_put_16 : decode cX3_put 16 = .ok (.return_, 1) := by decide +kernel
theorem dX3_heldBy_0 : decode cX3_heldBy 0 = .ok (.aload_n 0, 1) := by decide +kernel
theorem dX3_heldBy_1 : decode cX3_heldBy 1 = .ok (.iload_n 1, 1) := by decide +kernel
theorem dX3_heldBy_2 : decode cX3_heldBy 2 = .ok (.bipush 6, 2) := by decide +kernel
theorem dX3_heldBy_4 : decode cX3_heldBy 4 = .ok (.invokevirtual 69, 3) := by decide +kernel
theorem dX3_heldBy_7 : decode cX3_heldBy 7 = .ok (.aload_n 0, 1) := by decide +kernel
theorem dX3_heldBy_8 : decode cX3_heldBy 8 = .ok (.iload_n 1, 1) := by decide +kernel
theorem dX3_heldBy_9 : decode cX3_heldBy 9 = .ok (.bipush 7, 2) := by decide +kernel
theorem dX3_heldBy_11 : decode cX3_heldBy 11 = .ok (.invokevirtual 69, 3) := by decide +kernel
theorem dX3_heldBy_14 : decode cX3_heldBy 14 = .ok (.iadd, 1) := by decide +kernel
theorem dX3_heldBy_15 : decode cX3_heldBy 15 = .ok (.aload_n 0, 1) := by decide +kernel
theorem dX3_heldBy_16 : decode cX3_heldBy 16 = .ok (.iload_n 1, 1) := by decide +kernel
theorem dX3_heldBy_17 : decode cX3_heldBy 17 = .ok (.bipush 8, 2) := by decide +kernel
theorem dX3_heldBy_19 : decode cX3_heldBy 19 = .ok (.invokevirtual 69, 3) := by decide +kernel
theorem dX3_heldBy_22 : decode cX3_heldBy 22 = .ok (.iadd, 1) := by decide +kernel
theorem dX3_heldBy_23 : decode cX3_heldBy 23 = .ok (.ireturn, 1) := by decide +kernel
theorem dX3_current_0 : decode cX3_current 0 = .ok (.bipush 6, 2) := by decide +kernel
theorem dX3_current_2 : decode cX3_current 2 = .ok (.aload_n 0, 1) := by decide +kernel
theorem dX3_current_3 : decode cX3_current 3 = .ok (.iload_n 1, 1) := by decide +kernel
theorem dX3_current_4 : decode cX3_current 4 = .ok (.iconst 5, 1) := by decide +kernel
theorem dX3_current_5 : decode cX3_current 5 = .ok (.invokevirtual 69, 3) := by decide +kernel
theorem dX3_current_8 : decode cX3_current 8 = .ok (.iadd, 1) := by decide +kernel
theorem dX3_current_9 : decode cX3_current 9 = .ok (.iconst 1, 1) := by decide +kernel
theorem dX3_current_10 : decode cX3_current 10 = .ok (.isub, 1) := by decide +kernel
theorem dX3_current_11 : decode cX3_current 11 = .ok (.ireturn, 1) := by decide +kernel
theorem dX3_pop_0 : decode cX3_pop 0 = .ok (.aload_n 0, 1) := by decide +kernel
theorem dX3_pop_1 : decode cX3_pop 1 = .ok (.iload_n 1, 1) := by decide +kernel
theorem dX3_pop_2 : decode cX3_pop 2 = .ok (.invokevirtual 73, 3) := by decide +kernel
theorem dX3_pop_5 : decode cX3_pop 5 = .ok (.istore_n 2, 1) := by decide +kernel
theorem dX3_pop_6 : decode cX3_pop 6 = .ok (.aload_n 0, 1) := by decide +kernel
theorem dX3_pop_7 : decode cX3_pop 7 = .ok (.iload_n 1, 1) := by decide +kernel
theorem dX3_pop_8 : decode cX3_pop 8 = .ok (.iload_n 2, 1) := by decide +kernel
theorem dX3_pop_9 : decode cX3_pop 9 = .ok (.invokevirtual 69, 3) := by decide +kernel
theorem dX3_pop_12 : decode cX3_pop 12 = .ok (.ifCond .ne 5, 3) := by decide +kernel
theorem dX3_pop_15 : decode cX3_pop 15 = .ok (.iconst 0, 1) := by decide +kernel
theorem dX3_pop_16 : decode cX3_pop 16 = .ok (.ireturn, 1) := by decide +kernel
theorem dX3_pop_17 : decode cX3_pop 17 = .ok (.bipush 9, 2) := by decide +kernel
theorem dX3_pop_19 : decode cX3_pop 19 = .ok (.aload_n 0, 1) := by decide +kernel
theorem dX3_pop_20 : decode cX3_pop 20 = .ok (.iload_n 1, 1) := by decide +kernel
theorem dX3_pop_21 : decode cX3_pop 21 = .ok (.invokevirtual 77, 3) := by decide +kernel
theorem dX3_pop_24 : decode cX3_pop 24 = .ok (.iadd, 1) := by decide +kernel
theorem dX3_pop_25 : decode cX3_pop 25 = .ok (.iconst 1, 1) := by decide +kernel
theorem dX3_pop_26 : decode cX3_pop 26 = .ok (.isub, 1) := by decide +kernel
theorem dX3_pop_27 : decode cX3_pop 27 = .ok (.istore_n 3, 1) := by decide +kernel
theorem dX3_pop_28 : decode cX3_pop 28 = .ok (.aload_n 0, 1) := by decide +kernel
theorem dX3_pop_29 : decode cX3_pop 29 = .ok (.iload_n 1, 1) := by decide +kernel
theorem dX3_pop_30 : decode cX3_pop 30 = .ok (.iload_n 3, 1) := by decide +kernel
theorem dX3_pop_31 : decode cX3_pop 31 = .ok (.invokevirtual 69, 3) := by decide +kernel
theorem dX3_pop_34 : decode cX3_pop 34 = .ok (.istore 4, 2) := by decide +kernel
theorem dX3_pop_36 : decode cX3_pop 36 = .ok (.aload_n 0, 1) := by decide +kernel
theorem dX3_pop_37 : decode cX3_pop 37 = .ok (.iload_n 1, 1) := by decide +kernel
theorem dX3_pop_38 : decode cX3_pop 38 = .ok (.iload_n 3, 1) := by decide +kernel
theorem dX3_pop_39 : decode cX3_pop 39 = .ok (.iconst 0, 1) := by decide +kernel
theorem dX3_pop_40 : decode cX3_pop 40 = .ok (.invokevirtual 80, 3) := by decide +kernel
theorem dX3_pop_43 : decode cX3_pop 43 = .ok (.aload_n 0, 1) := by decide +kernel
theorem dX3_pop_44 : decode cX3_pop 44 = .ok (.iload_n 1, 1) := by decide +kernel
theorem dX3_pop_45 : decode cX3_pop 45 = .ok (.iload_n 2, 1) := by decide +kernel
theorem dX3_pop_46 : decode cX3_pop 46 = .ok (.aload_n 0, 1) := by decide +kernel
theorem dX3_pop_47 : decode cX3_pop 47 = .ok (.iload_n 1, 1) := by decide +kernel
theorem dX3_pop_48 : decode cX3_pop 48 = .ok (.iload_n 2, 1) := by decide +kernel
theorem dX3_pop_49 : decode cX3_pop 49 = .ok (.invokevirtual 69, 3) := by decide +kernel
theorem dX3_pop_52 : decode cX3_pop 52 = .ok (.iconst 1, 1) := by decide +kernel
theorem dX3_pop_53 : decode cX3_pop 53 = .ok (.isub, 1) := by decide +kernel
theorem dX3_pop_54 : decode cX3_pop 54 = .ok (.invokevirtual 80, 3) := by decide +kernel
theorem dX3_pop_57 : decode cX3_pop 57 = .ok (.iload 4, 2) := by decide +kernel
theorem dX3_pop_59 : decode cX3_pop 59 = .ok (.ireturn, 1) := by decide +kernel
theorem dX3_push_0 : decode cX3_push 0 = .ok (.aload_n 0, 1) := by decide +kernel
theorem dX3_push_1 : decode cX3_push 1 = .ok (.iload_n 1, 1) := by decide +kernel
theorem dX3_push_2 : decode cX3_push 2 = .ok (.invokevirtual 77, 3) := by decide +kernel
theorem dX3_push_5 : decode cX3_push 5 = .ok (.istore_n 3, 1) := by decide +kernel
theorem dX3_push_6 : decode cX3_push 6 = .ok (.iload_n 3, 1) := by decide +kernel
theorem dX3_push_7 : decode cX3_push 7 = .ok (.bipush 16, 2) := by decide +kernel
theorem dX3_push_9 : decode cX3_push 9 = .ok (.if_icmp .ne 11, 3) := by decide +kernel
theorem dX3_push_12 : decode cX3_push 12 = .ok (.aload_n 0, 1) := by decide +kernel
theorem dX3_push_13 : decode cX3_push 13 = .ok (.iload_n 1, 1) := by decide +kernel
theorem dX3_push_14 : decode cX3_push 14 = .ok (.iconst 3, 1) := by decide +kernel
theorem dX3_push_15 : decode cX3_push 15 = .ok (.iconst 2, 1) := by decide +kernel
theorem dX3_push_16 : decode cX3_push 16 = .ok (.invokevirtual 80, 3) := by decide +kernel
theorem dX3_push_19 : decode cX3_push 19 = .ok (.return_, 1) := by decide +kernel
theorem dX3_push_20 : decode cX3_push 20 = .ok (.aload_n 0, 1) := by decide +kernel
theorem dX3_push_21 : decode cX3_push 21 = .ok (.iload_n 1, 1) := by decide +kernel
theorem dX3_push_22 : decode cX3_push 22 = .ok (.bipush 9, 2) := by decide +kernel
theorem dX3_push_24 : decode cX3_push 24 = .ok (.iload_n 3, 1) := by decide +kernel
theorem dX3_push_25 : decode cX3_push 25 = .ok (.iadd, 1) := by decide +kernel
theorem dX3_push_26 : decode cX3_push 26 = .ok (.iload_n 2, 1) := by decide +kernel
theorem dX3_push_27 : decode cX3_push 27 = .ok (.invokevirtual 80, 3) := by decide +kernel
theorem dX3_push_30 : decode cX3_push 30 = .ok (.aload_n 0, 1) := by decide +kernel
theorem dX3_push_31 : decode cX3_push 31 = .ok (.iload_n 1, 1) := by decide +kernel
theorem dX3_push_32 : decode cX3_push 32 = .ok (.aload_n 0, 1) := by decide +kernel
theorem dX3_push_33 : decode cX3_push 33 = .ok (.iload_n 1, 1) := by decide +kernel
theorem dX3_push_34 : decode cX3_push 34 = .ok (.invokevirtual 73, 3) := by decide +kernel
theorem dX3_push_37 : decode cX3_push 37 = .ok (.aload_n 0, 1) := by decide +kernel
theorem dX3_push_38 : decode cX3_push 38 = .ok (.iload_n 1, 1) := by decide +kernel
theorem dX3_push_39 : decode cX3_push 39 = .ok (.aload_n 0, 1) := by decide +kernel
theorem dX3_push_40 : decode cX3_push 40 = .ok (.iload_n 1, 1) := by decide +kernel
theorem dX3_push_41 : decode cX3_push 41 = .ok (.invokevirtual 73, 3) := by decide +kernel
theorem dX3_push_44 : decode cX3_push 44 = .ok (.invokevirtual 69, 3) := by decide +kernel
theorem dX3_push_47 : decode cX3_push 47 = .ok (.iconst 1, 1) := by decide +kernel
theorem dX3_push_48 : decode cX3_push 48 = .ok (.iadd, 1) := by decide +kernel
theorem dX3_push_49 : decode cX3_push 49 = .ok (.invokevirtual 80, 3) := by decide +kernel
theorem dX3_push_52 : decode cX3_push 52 = .ok (.return_, 1) := by decide +kernel
theorem dX3_modulo_0 : decode cX3_modulo 0 = .ok (.iload_n 0, 1) := by decide +kernel
theorem dX3_modulo_1 : decode cX3_modulo 1 = .ok (.iload_n 1, 1) := by decide +kernel
theorem dX3_modulo_2 : decode cX3_modulo 2 = .ok (.irem, 1) := by decide +kernel
theorem dX3_modulo_3 : decode cX3_modulo 3 = .ok (.istore_n 2, 1) := by decide +kernel
theorem dX3_modulo_4 : decode cX3_modulo 4 = .ok (.iload_n 2, 1) := by decide +kernel
theorem dX3_modulo_5 : decode cX3_modulo 5 = .ok (.ifCond .ge 9, 3) := by decide +kernel
theorem dX3_modulo_8 : decode cX3_modulo 8 = .ok (.iload_n 2, 1) := by decide +kernel
theorem dX3_modulo_9 : decode cX3_modulo 9 = .ok (.iload_n 1, 1) := by decide +kernel
theorem dX3_modulo_10 : decode cX3_modulo 10 = .ok (.iadd, 1) := by decide +kernel
theorem dX3_modulo_11 : decode cX3_modulo 11 = .ok (.goto 4, 3) := by decide +kernel
theorem dX3_modulo_14 : decode cX3_modulo 14 = .ok (.iload_n 2, 1) := by decide +kernel
theorem dX3_modulo_15 : decode cX3_modulo 15 = .ok (.ireturn, 1) := by decide +kernel
theorem dX3_move_0 : decode cX3_move 0 = .ok (.aload_n 0, 1) := by decide +kernel
theorem dX3_move_1 : decode cX3_move 1 = .ok (.iload_n 1, 1) := by decide +kernel
theorem dX3_move_2 : decode cX3_move 2 = .ok (.iconst 2, 1) := by decide +kernel
theorem dX3_move_3 : decode cX3_move 3 = .ok (.invokevirtual 69, 3) := by decide +kernel
theorem dX3_move_6 : decode cX3_move 6 = .ok (.istore_n 2, 1) := by decide +kernel
theorem dX3_move_7 : decode cX3_move 7 = .ok (.iload_n 2, 1) := by decide +kernel
theorem dX3_move_8 : decode cX3_move 8 = .ok (.ifCond .ne 7, 3) := by decide +kernel
theorem dX3_move_11 : decode cX3_move 11 = .ok (.iconst 1, 1) := by decide +kernel
theorem dX3_move_12 : decode cX3_move 12 = .ok (.goto 14, 3) := by decide +kernel
theorem dX3_move_15 : decode cX3_move 15 = .ok (.iload_n 2, 1) := by decide +kernel
theorem dX3_move_16 : decode cX3_move 16 = .ok (.iconst 2, 1) := by decide +kernel
theorem dX3_move_17 : decode cX3_move 17 = .ok (.if_icmp .ne 8, 3) := by decide +kernel
theorem dX3_move_20 : decode cX3_move 20 = .ok (.bipush 11, 2) := by decide +kernel
theorem dX3_move_22 : decode cX3_move 22 = .ok (.goto 4, 3) := by decide +kernel
theorem dX3_move_25 : decode cX3_move 25 = .ok (.iconst 0, 1) := by decide +kernel
theorem dX3_move_26 : decode cX3_move 26 = .ok (.istore_n 3, 1) := by decide +kernel
theorem dX3_move_27 : decode cX3_move 27 = .ok (.iload_n 2, 1) := by decide +kernel
theorem dX3_move_28 : decode cX3_move 28 = .ok (.iconst 1, 1) := by decide +kernel
theorem dX3_move_29 : decode cX3_move 29 = .ok (.if_icmp .ne 7, 3) := by decide +kernel
theorem dX3_move_32 : decode cX3_move 32 = .ok (.iconst 1, 1) := by decide +kernel
theorem dX3_move_33 : decode cX3_move 33 = .ok (.goto 13, 3) := by decide +kernel
theorem dX3_move_36 : decode cX3_move 36 = .ok (.iload_n 2, 1) := by decide +kernel
theorem dX3_move_37 : decode cX3_move 37 = .ok (.iconst 3, 1) := by decide +kernel
theorem dX3_move_38 : decode cX3_move 38 = .ok (.if_icmp .ne 7, 3) := by decide +kernel
theorem dX3_move_41 : decode cX3_move 41 = .ok (.iconst 5, 1) := by decide +kernel
theorem dX3_move_42 : decode cX3_move 42 = .ok (.goto 4, 3) := by decide +kernel
theorem dX3_move_45 : decode cX3_move 45 = .ok (.iconst 0, 1) := by decide +kernel
theorem dX3_move_46 : decode cX3_move 46 = .ok (.istore 4, 2) := by decide +kernel
theorem dX3_move_48 : decode cX3_move 48 = .ok (.aload_n 0, 1) := by decide +kernel
theorem dX3_move_49 : decode cX3_move 49 = .ok (.iload_n 1, 1) := by decide +kernel
theorem dX3_move_50 : decode cX3_move 50 = .ok (.iconst 0, 1) := by decide +kernel
theorem dX3_move_51 : decode cX3_move 51 = .ok (.aload_n 0, 1) := by decide +kernel
theorem dX3_move_52 : decode cX3_move 52 = .ok (.iload_n 1, 1) := by decide +kernel
theorem dX3_move_53 : decode cX3_move 53 = .ok (.iconst 0, 1) := by decide +kernel
theorem dX3_move_54 : decode cX3_move 54 = .ok (.invokevirtual 69, 3) := by decide +kernel
theorem dX3_move_57 : decode cX3_move 57 = .ok (.iload_n 3, 1) := by decide +kernel
theorem dX3_move_58 : decode cX3_move 58 = .ok (.iadd, 1) := by decide +kernel
theorem dX3_move_59 : decode cX3_move 59 = .ok (.bipush 12, 2) := by decide +kernel
theorem dX3_move_61 : decode cX3_move 61 = .ok (.irem, 1) := by decide +kernel
theorem dX3_move_62 : decode cX3_move 62 = .ok (.invokevirtual 80, 3) := by decide +kernel
theorem dX3_move_65 : decode cX3_move 65 = .ok (.aload_n 0, 1) := by decide +kernel
theorem dX3_move_66 : decode cX3_move 66 = .ok (.iload_n 1, 1) := by decide +kernel
theorem dX3_move_67 : decode cX3_move 67 = .ok (.iconst 1, 1) := by decide +kernel
theorem dX3_move_68 : decode cX3_move 68 = .ok (.aload_n 0, 1) := by decide +kernel
theorem dX3_move_69 : decode cX3_move 69 = .ok (.iload_n 1, 1) := by decide +kernel
theorem dX3_move_70 : decode cX3_move 70 = .ok (.iconst 1, 1) := by decide +kernel
theorem dX3_move_71 : decode cX3_move 71 = .ok (.invokevirtual 69, 3) := by decide +kernel
theorem dX3_move_74 : decode cX3_move 74 = .ok (.iload 4, 2) := by decide +kernel
theorem dX3_move_76 : decode cX3_move 76 = .ok (.iadd, 1) := by decide +kernel
theorem dX3_move_77 : decode cX3_move 77 = .ok (.bipush 6, 2) := by decide +kernel
theorem dX3_move_79 : decode cX3_move 79 = .ok (.irem, 1) := by decide +kernel
theorem dX3_move_80 : decode cX3_move 80 = .ok (.invokevirtual 80, 3) := by decide +kernel
theorem dX3_move_83 : decode cX3_move 83 = .ok (.return_, 1) := by decide +kernel
theorem dX3_turn_0 : decode cX3_turn 0 = .ok (.aload_n 0, 1) := by decide +kernel
theorem dX3_turn_1 : decode cX3_turn 1 = .ok (.iload_n 1, 1) := by decide +kernel
theorem dX3_turn_2 : decode cX3_turn 2 = .ok (.iconst 2, 1) := by decide +kernel
theorem dX3_turn_3 : decode cX3_turn 3 = .ok (.aload_n 0, 1) := by decide +kernel
theorem dX3_turn_4 : decode cX3_turn 4 = .ok (.iload_n 1, 1) := by decide +kernel
theorem dX3_turn_5 : decode cX3_turn 5 = .ok (.iconst 2, 1) := by decide +kernel
theorem dX3_turn_6 : decode cX3_turn 6 = .ok (.invokevirtual 69, 3) := by decide +kernel
theorem dX3_turn_9 : decode cX3_turn 9 = .ok (.iload_n 2, 1) := by decide +kernel
theorem dX3_turn_10 : decode cX3_turn 10 = .ok (.iadd, 1) := by decide +kernel
theorem dX3_turn_11 : decode cX3_turn 11 = .ok (.iconst 4, 1) := by decide +kernel
theorem dX3_turn_12 : decode cX3_turn 12 = .ok (.irem, 1) := by decide +kernel
theorem dX3_turn_13 : decode cX3_turn 13 = .ok (.invokevirtual 80, 3) := by decide +kernel
theorem dX3_turn_16 : decode cX3_turn 16 = .ok (.return_, 1) := by decide +kernel
theorem dX3_cell_0 : decode cX3_cell 0 = .ok (.bipush 72, 2) := by decide +kernel
theorem dX3_cell_2 : decode cX3_cell 2 = .ok (.bipush 12, 2) := by decide +kernel
theorem dX3_cell_4 : decode cX3_cell 4 = .ok (.iload_n 1, 1) := by decide +kernel
theorem dX3_cell_5 : decode cX3_cell 5 = .ok (.bipush 6, 2) := by decide +kernel
theorem dX3_cell_7 : decode cX3_cell 7 = .ok (.invokestatic 84, 3) := by decide +kernel
theorem dX3_cell_10 : decode cX3_cell 10 = .ok (.imul, 1) := by decide +kernel
theorem dX3_cell_11 : decode cX3_cell 11 = .ok (.iadd, 1) := by decide +kernel
theorem dX3_cell_12 : decode cX3_cell 12 = .ok (.iload_n 0, 1) := by decide +kernel
theorem dX3_cell_13 : decode cX3_cell 13 = .ok (.bipush 12, 2) := by decide +kernel
theorem dX3_cell_15 : decode cX3_cell 15 = .ok (.invokestatic 84, 3) := by decide +kernel
theorem dX3_cell_18 : decode cX3_cell 18 = .ok (.iadd, 1) := by decide +kernel
theorem dX3_cell_19 : decode cX3_cell 19 = .ok (.ireturn, 1) := by decide +kernel
theorem dX3_operate_0 : decode cX3_operate 0 = .ok (.iload_n 0, 1) := by decide +kernel
theorem dX3_operate_1 : decode cX3_operate 1 = .ok (.tableswitch 95 37 47 #[83, 95, 95, 95, 95, 67, 59, 95, 63, 95, 71], 59) := by decide +kernel
theorem dX3_operate_60 : decode cX3_operate 60 = .ok (.iload_n 1, 1) := by decide +kernel
theorem dX3_operate_61 : decode cX3_operate 61 = .ok (.iload_n 2, 1) := by decide +kernel
theorem dX3_operate_62 : decode cX3_operate 62 = .ok (.iadd, 1) := by decide +kernel
theorem dX3_operate_63 : decode cX3_operate 63 = .ok (.ireturn, 1) := by decide +kernel
theorem dX3_operate_64 : decode cX3_operate 64 = .ok (.iload_n 1, 1) := by decide +kernel
theorem dX3_operate_65 : decode cX3_operate 65 = .ok (.iload_n 2, 1) := by decide +kernel
theorem dX3_operate_66 : decode cX3_operate 66 = .ok (.isub, 1) := by decide +kernel
theorem dX3_operate_67 : decode cX3_operate 67 = .ok (.ireturn, 1) := by decide +kernel
theorem dX3_operate_68 : decode cX3_operate 68 = .ok (.iload_n 1, 1) := by decide +kernel
theorem dX3_operate_69 : decode cX3_operate 69 = .ok (.iload_n 2, 1) := by decide +kernel
theorem dX3_operate_70 : decode cX3_operate 70 = .ok (.imul, 1) := by decide +kernel
theorem dX3_operate_71 : decode cX3_operate 71 = .ok (.ireturn, 1) := by decide +kernel
theorem dX3_operate_72 : decode cX3_operate 72 = .ok (.iload_n 2, 1) := by decide +kernel
theorem dX3_operate_73 : decode cX3_operate 73 = .ok (.ifCond .ne 7, 3) := by decide +kernel
theorem dX3_operate_76 : decode cX3_operate 76 = .ok (.iconst 0, 1) := by decide +kernel
theorem dX3_operate_77 : decode cX3_operate 77 = .ok (.goto 6, 3) := by decide +kernel
theorem dX3_operate_80 : decode cX3_operate 80 = .ok (.iload_n 1, 1) := by decide +kernel
theorem dX3_operate_81 : decode cX3_operate 81 = .ok (.iload_n 2, 1) := by decide +kernel
theorem dX3_operate_82 : decode cX3_operate 82 = .ok (.idiv, 1) := by decide +kernel
theorem dX3_operate_83 : decode cX3_operate 83 = .ok (.ireturn, 1) := by decide +kernel
theorem dX3_operate_84 : decode cX3_operate 84 = .ok (.iload_n 2, 1) := by decide +kernel
theorem dX3_operate_85 : decode cX3_operate 85 = .ok (.ifCond .ne 7, 3) := by decide +kernel
theorem dX3_operate_88 : decode cX3_operate 88 = .ok (.iconst 0, 1) := by decide +kernel
theorem dX3_operate_89 : decode cX3_operate 89 = .ok (.goto 6, 3) := by decide +kernel
theorem dX3_operate_92 : decode cX3_operate 92 = .ok (.iload_n 1, 1) := by decide +kernel
theorem dX3_operate_93 : decode cX3_operate 93 = .ok (.iload_n 2, 1) := by decide +kernel
theorem dX3_operate_94 : decode cX3_operate 94 = .ok (.irem, 1) := by decide +kernel
theorem dX3_operate_95 : decode cX3_operate 95 = .ok (.ireturn, 1) := by decide +kernel
theorem dX3_operate_96 : decode cX3_operate 96 = .ok (.iload_n 1, 1) := by decide +kernel
theorem dX3_operate_97 : decode cX3_operate 97 = .ok (.iload_n 2, 1) := by decide +kernel
theorem dX3_operate_98 : decode cX3_operate 98 = .ok (.if_icmp .le 7, 3) := by decide +kernel
theorem dX3_operate_101 : decode cX3_operate 101 = .ok (.iconst 1, 1) := by decide +kernel
theorem dX3_operate_102 : decode cX3_operate 102 = .ok (.goto 4, 3) := by decide +kernel
theorem dX3_operate_105 : decode cX3_operate 105 = .ok (.iconst 0, 1) := by decide +kernel
theorem dX3_operate_106 : decode cX3_operate 106 = .ok (.ireturn, 1) := by decide +kernel
theorem dX3_clamp_0 : decode cX3_clamp 0 = .ok (.iload_n 0, 1) := by decide +kernel
theorem dX3_clamp_1 : decode cX3_clamp 1 = .ok (.ifCond .ge 7, 3) := by decide +kernel
theorem dX3_clamp_4 : decode cX3_clamp 4 = .ok (.iconst 0, 1) := by decide +kernel
theorem dX3_clamp_5 : decode cX3_clamp 5 = .ok (.goto 13, 3) := by decide +kernel
theorem dX3_clamp_8 : decode cX3_clamp 8 = .ok (.iload_n 0, 1) := by decide +kernel
theorem dX3_clamp_9 : decode cX3_clamp 9 = .ok (.iload_n 1, 1) := by decide +kernel
theorem dX3_clamp_10 : decode cX3_clamp 10 = .ok (.if_icmp .le 7, 3) := by decide +kernel
theorem dX3_clamp_13 : decode cX3_clamp 13 = .ok (.iload_n 1, 1) := by decide +kernel
theorem dX3_clamp_14 : decode cX3_clamp 14 = .ok (.goto 4, 3) := by decide +kernel
theorem dX3_clamp_17 : decode cX3_clamp 17 = .ok (.iload_n 0, 1) := by decide +kernel
theorem dX3_clamp_18 : decode cX3_clamp 18 = .ok (.ireturn, 1) := by decide +kernel
theorem dX3_openStack_0 : decode cX3_openStack 0 = .ok (.aload_n 0, 1) := by decide +kernel
theorem dX3_openStack_1 : decode cX3_openStack 1 = .ok (.iload_n 1, 1) := by decide +kernel
theorem dX3_openStack_2 : decode cX3_openStack 2 = .ok (.invokevirtual 87, 3) := by decide +kernel
theorem dX3_openStack_5 : decode cX3_openStack 5 = .ok (.istore_n 2, 1) := by decide +kernel
theorem dX3_openStack_6 : decode cX3_openStack 6 = .ok (.aload_n 0, 1) := by decide +kernel
theorem dX3_openStack_7 : decode cX3_openStack 7 = .ok (.iload_n 1, 1) := by decide +kernel
theorem dX3_openStack_8 : decode cX3_openStack 8 = .ok (.iconst 5, 1) := by decide +kernel
theorem dX3_openStack_9 : decode cX3_openStack 9 = .ok (.invokevirtual 69, 3) := by decide +kernel
theorem dX3_openStack_12 : decode cX3_openStack 12 = .ok (.iconst 3, 1) := by decide +kernel
theorem dX3_openStack_13 : decode cX3_openStack 13 = .ok (.if_icmp .ne 4, 3) := by decide +kernel
theorem dX3_openStack_16 : decode cX3_openStack 16 = .ok (.return_, 1) := by decide +kernel
theorem dX3_openStack_17 : decode cX3_openStack 17 = .ok (.aload_n 0, 1) := by decide +kernel
theorem dX3_openStack_18 : decode cX3_openStack 18 = .ok (.iload_n 1, 1) := by decide +kernel
theorem dX3_openStack_19 : decode cX3_openStack 19 = .ok (.invokevirtual 73, 3) := by decide +kernel
theorem dX3_openStack_22 : decode cX3_openStack 22 = .ok (.istore_n 3, 1) := by decide +kernel
theorem dX3_openStack_23 : decode cX3_openStack 23 = .ok (.iload_n 2, 1) := by decide +kernel
theorem dX3_openStack_24 : decode cX3_openStack 24 = .ok (.aload_n 0, 1) := by decide +kernel
theorem dX3_openStack_25 : decode cX3_openStack 25 = .ok (.iload_n 1, 1) := by decide +kernel
theorem dX3_openStack_26 : decode cX3_openStack 26 = .ok (.iload_n 3, 1) := by decide +kernel
theorem dX3_openStack_27 : decode cX3_openStack 27 = .ok (.invokevirtual 69, 3) := by decide +kernel
theorem dX3_openStack_30 : decode cX3_openStack 30 = .ok (.invokestatic 90, 3) := by decide +kernel
theorem dX3_openStack_33 : decode cX3_openStack 33 = .ok (.istore 4, 2) := by decide +kernel
theorem dX3_openStack_35 : decode cX3_openStack 35 = .ok (.aload_n 0, 1) := by decide +kernel
theorem dX3_openStack_36 : decode cX3_openStack 36 = .ok (.iload_n 1, 1) := by decide +kernel
theorem dX3_openStack_37 : decode cX3_openStack 37 = .ok (.iload_n 3, 1) := by decide +kernel
theorem dX3_openStack_38 : decode cX3_openStack 38 = .ok (.aload_n 0, 1) := by decide +kernel
theorem dX3_openStack_39 : decode cX3_openStack 39 = .ok (.iload_n 1, 1) := by decide +kernel
theorem dX3_openStack_40 : decode cX3_openStack 40 = .ok (.iload_n 3, 1) := by decide +kernel
theorem dX3_openStack_41 : decode cX3_openStack 41 = .ok (.invokevirtual 69, 3) := by decide +kernel
theorem dX3_openStack_44 : decode cX3_openStack 44 = .ok (.iload 4, 2) := by decide +kernel
theorem dX3_openStack_46 : decode cX3_openStack 46 = .ok (.isub, 1) := by decide +kernel
theorem dX3_openStack_47 : decode cX3_openStack 47 = .ok (.invokevirtual 80, 3) := by decide +kernel
theorem dX3_openStack_50 : decode cX3_openStack 50 = .ok (.aload_n 0, 1) := by decide +kernel
theorem dX3_openStack_51 : decode cX3_openStack 51 = .ok (.iload_n 1, 1) := by decide +kernel
theorem dX3_openStack_52 : decode cX3_openStack 52 = .ok (.iload_n 3, 1) := by decide +kernel
theorem dX3_openStack_53 : decode cX3_openStack 53 = .ok (.iconst 1, 1) := by decide +kernel
theorem dX3_openStack_54 : decode cX3_openStack 54 = .ok (.iadd, 1) := by decide +kernel
theorem dX3_openStack_55 : decode cX3_openStack 55 = .ok (.iload 4, 2) := by decide +kernel
theorem dX3_openStack_57 : decode cX3_openStack 57 = .ok (.invokevirtual 80, 3) := by decide +kernel
theorem dX3_openStack_60 : decode cX3_openStack 60 = .ok (.aload_n 0, 1) := by decide +kernel
theorem dX3_openStack_61 : decode cX3_openStack 61 = .ok (.iload_n 1, 1) := by decide +kernel
theorem dX3_openStack_62 : decode cX3_openStack 62 = .ok (.iconst 5, 1) := by decide +kernel
theorem dX3_openStack_63 : decode cX3_openStack 63 = .ok (.aload_n 0, 1) := by decide +kernel
theorem dX3_openStack_64 : decode cX3_openStack 64 = .ok (.iload_n 1, 1) := by decide +kernel
theorem dX3_openStack_65 : decode cX3_openStack 65 = .ok (.iconst 5, 1) := by decide +kernel
theorem dX3_openStack_66 : decode cX3_openStack 66 = .ok (.invokevirtual 69, 3) := by decide +kernel
theorem dX3_openStack_69 : decode cX3_openStack 69 = .ok (.iconst 1, 1) := by decide +kernel
theorem dX3_openStack_70 : decode cX3_openStack 70 = .ok (.iadd, 1) := by decide +kernel
theorem dX3_openStack_71 : decode cX3_openStack 71 = .ok (.invokevirtual 80, 3) := by decide +kernel
theorem dX3_openStack_74 : decode cX3_openStack 74 = .ok (.return_, 1) := by decide +kernel
theorem dX3_closeStack_0 : decode cX3_closeStack 0 = .ok (.aload_n 0, 1) := by decide +kernel
theorem dX3_closeStack_1 : decode cX3_closeStack 1 = .ok (.iload_n 1, 1) := by decide +kernel
theorem dX3_closeStack_2 : decode cX3_closeStack 2 = .ok (.iconst 5, 1) := by decide +kernel
theorem dX3_closeStack_3 : decode cX3_closeStack 3 = .ok (.invokevirtual 69, 3) := by decide +kernel
theorem dX3_closeStack_6 : decode cX3_closeStack 6 = .ok (.iconst 1, 1) := by decide +kernel
theorem dX3_closeStack_7 : decode cX3_closeStack 7 = .ok (.if_icmp .ne 10, 3) := by decide +kernel
theorem dX3_closeStack_10 : decode cX3_closeStack 10 = .ok (.aload_n 0, 1) := by decide +kernel
theorem dX3_closeStack_11 : decode cX3_closeStack 11 = .ok (.iload_n 1, 1) := by decide +kernel
theorem dX3_closeStack_12 : decode cX3_closeStack 12 = .ok (.iconst 2, 1) := by decide +kernel
theorem dX3_closeStack_13 : decode cX3_closeStack 13 = .ok (.invokevirtual 93, 3) := by decide +kernel
theorem dX3_closeStack_16 : decode cX3_closeStack 16 = .ok (.return_, 1) := by decide +kernel
theorem dX3_closeStack_17 : decode cX3_closeStack 17 = .ok (.aload_n 0, 1) := by decide +kernel
theorem dX3_closeStack_18 : decode cX3_closeStack 18 = .ok (.iload_n 1, 1) := by decide +kernel
theorem dX3_closeStack_19 : decode cX3_closeStack 19 = .ok (.invokevirtual 87, 3) := by decide +kernel
theorem dX3_closeStack_22 : decode cX3_closeStack 22 = .ok (.istore_n 2, 1) := by decide +kernel
theorem dX3_closeStack_23 : decode cX3_closeStack 23 = .ok (.aload_n 0, 1) := by decide +kernel
theorem dX3_closeStack_24 : decode cX3_closeStack 24 = .ok (.iload_n 1, 1) := by decide +kernel
theorem dX3_closeStack_25 : decode cX3_closeStack 25 = .ok (.invokevirtual 73, 3) := by decide +kernel
theorem dX3_closeStack_28 : decode cX3_closeStack 28 = .ok (.istore_n 3, 1) := by decide +kernel
theorem dX3_closeStack_29 : decode cX3_closeStack 29 = .ok (.iload_n 2, 1) := by decide +kernel
theorem dX3_closeStack_30 : decode cX3_closeStack 30 = .ok (.aload_n 0, 1) := by decide +kernel
theorem dX3_closeStack_31 : decode cX3_closeStack 31 = .ok (.iload_n 1, 1) := by decide +kernel
theorem dX3_closeStack_32 : decode cX3_closeStack 32 = .ok (.iload_n 3, 1) := by decide +kernel
theorem dX3_closeStack_33 : decode cX3_closeStack 33 = .ok (.invokevirtual 69, 3) := by decide +kernel
theorem dX3_closeStack_36 : decode cX3_closeStack 36 = .ok (.invokestatic 90, 3) := by decide +kernel
theorem dX3_closeStack_39 : decode cX3_closeStack 39 = .ok (.istore 4, 2) := by decide +kernel
theorem dX3_closeStack_41 : decode cX3_closeStack 41 = .ok (.aload_n 0, 1) := by decide +kernel
theorem dX3_closeStack_42 : decode cX3_closeStack 42 = .ok (.iload_n 1, 1) := by decide +kernel
theorem dX3_closeStack_43 : decode cX3_closeStack 43 = .ok (.iload_n 3, 1) := by decide +kernel
theorem dX3_closeStack_44 : decode cX3_closeStack 44 = .ok (.invokevirtual 69, 3) := by decide +kernel
theorem dX3_closeStack_47 : decode cX3_closeStack 47 = .ok (.iload 4, 2) := by decide +kernel
theorem dX3_closeStack_49 : decode cX3_closeStack 49 = .ok (.isub, 1) := by decide +kernel
theorem dX3_closeStack_50 : decode cX3_closeStack 50 = .ok (.istore 5, 2) := by decide +kernel
theorem dX3_closeStack_52 : decode cX3_closeStack 52 = .ok (.bipush 9, 2) := by decide +kernel
theorem dX3_closeStack_54 : decode cX3_closeStack 54 = .ok (.aload_n 0, 1) := by decide +kernel
theorem dX3_closeStack_55 : decode cX3_closeStack 55 = .ok (.iload_n 1, 1) := by decide +kernel
theorem dX3_closeStack_56 : decode cX3_closeStack 56 = .ok (.invokevirtual 77, 3) := by decide +kernel
theorem dX3_closeStack_59 : decode cX3_closeStack 59 = .ok (.iadd, 1) := by decide +kernel
theorem dX3_closeStack_60 : decode cX3_closeStack 60 = .ok (.istore 6, 2) := by decide +kernel
theorem dX3_closeStack_62 : decode cX3_closeStack 62 = .ok (.iload 6, 2) := by decide +kernel
theorem dX3_closeStack_64 : decode cX3_closeStack 64 = .ok (.iload 4, 2) := by decide +kernel
theorem dX3_closeStack_66 : decode cX3_closeStack 66 = .ok (.isub, 1) := by decide +kernel
theorem dX3_closeStack_67 : decode cX3_closeStack 67 = .ok (.istore 7, 2) := by decide +kernel
theorem dX3_closeStack_69 : decode cX3_closeStack 69 = .ok (.iload 7, 2) := by decide +kernel
theorem dX3_closeStack_71 : decode cX3_closeStack 71 = .ok (.iload 6, 2) := by decide +kernel
theorem dX3_closeStack_73 : decode cX3_closeStack 73 = .ok (.if_icmp .ge 26, 3) := by decide +kernel
theorem dX3_closeStack_76 : decode cX3_closeStack 76 = .ok (.aload_n 0, 1) := by decide +kernel
theorem dX3_closeStack_77 : decode cX3_closeStack 77 = .ok (.iload_n 1, 1) := by decide +kernel
theorem dX3_closeStack_78 : decode cX3_closeStack 78 = .ok (.iload 7, 2) := by decide +kernel
theorem dX3_closeStack_80 : decode cX3_closeStack 80 = .ok (.iload 5, 2) := by decide +kernel
theorem dX3_closeStack_82 : decode cX3_closeStack 82 = .ok (.isub, 1) := by decide +kernel
theorem dX3_closeStack_83 : decode cX3_closeStack 83 = .ok (.aload_n 0, 1) := by decide +kernel
theorem dX3_closeStack_84 : decode cX3_closeStack 84 = .ok (.iload_n 1, 1) := by decide +kernel
theorem dX3_closeStack_85 : decode cX3_closeStack 85 = .ok (.iload 7, 2) := by decide +kernel
theorem dX3_closeStack_87 : decode cX3_closeStack 87 = .ok (.invokevirtual 69, 3) := by decide +kernel
theorem dX3_closeStack_90 : decode cX3_closeStack 90 = .ok (.invokevirtual 80, 3) := by decide +kernel
theorem dX3_closeStack_93 : decode cX3_closeStack 93 = .ok (.iinc 7 1, 3) := by decide +kernel
theorem dX3_closeStack_96 : decode cX3_closeStack 96 = .ok (.goto (-27), 3) := by decide +kernel
theorem dX3_closeStack_99 : decode cX3_closeStack 99 = .ok (.iload 6, 2) := by decide +kernel
theorem dX3_closeStack_101 : decode cX3_closeStack 101 = .ok (.iload 5, 2) := by decide +kernel
theorem dX3_closeStack_103 : decode cX3_closeStack 103 = .ok (.isub, 1) := by decide +kernel
theorem dX3_closeStack_104 : decode cX3_closeStack 104 = .ok (.istore 7, 2) := by decide +kernel
theorem dX3_closeStack_106 : decode cX3_closeStack 106 = .ok (.iload 7, 2) := by decide +kernel
theorem dX3_closeStack_108 : decode cX3_closeStack 108 = .ok (.iload 6, 2) := by decide +kernel
theorem dX3_closeStack_110 : decode cX3_closeStack 110 = .ok (.if_icmp .ge 17, 3) := by decide +kernel
theorem dX3_closeStack_113 : decode cX3_closeStack 113 = .ok (.aload_n 0, 1) := by decide +kernel
theorem dX3_closeStack_114 : decode cX3_closeStack 114 = .ok (.iload_n 1, 1) := by decide +kernel
theorem dX3_closeStack_115 : decode cX3_closeStack 115 = .ok (.iload 7, 2) := by decide +kernel
theorem dX3_closeStack_117 : decode cX3_closeStack 117 = .ok (.iconst 0, 1) := by decide +kernel
theorem dX3_closeStack_118 : decode cX3_closeStack 118 = .ok (.invokevirtual 80, 3) := by decide +kernel
theorem dX3_closeStack_121 : decode cX3_closeStack 121 = .ok (.iinc 7 1, 3) := by decide +kernel
theorem dX3_closeStack_124 : decode cX3_closeStack 124 = .ok (.goto (-18), 3) := by decide +kernel
theorem dX3_closeStack_127 : decode cX3_closeStack 127 = .ok (.aload_n 0, 1) := by decide +kernel
theorem dX3_closeStack_128 : decode cX3_closeStack 128 = .ok (.iload_n 1, 1) := by decide +kernel
theorem dX3_closeStack_129 : decode cX3_closeStack 129 = .ok (.iload_n 3, 1) := by decide +kernel
theorem dX3_closeStack_130 : decode cX3_closeStack 130 = .ok (.iconst 0, 1) := by decide +kernel
theorem dX3_closeStack_131 : decode cX3_closeStack 131 = .ok (.invokevirtual 80, 3) := by decide +kernel
theorem dX3_closeStack_134 : decode cX3_closeStack 134 = .ok (.aload_n 0, 1) := by decide +kernel
theorem dX3_closeStack_135 : decode cX3_closeStack 135 = .ok (.iload_n 1, 1) := by decide +kernel
theorem dX3_closeStack_136 : decode cX3_closeStack 136 = .ok (.iload_n 3, 1) := by decide +kernel
theorem dX3_closeStack_137 : decode cX3_closeStack 137 = .ok (.iconst 1, 1) := by decide +kernel
theorem dX3_closeStack_138 : decode cX3_closeStack 138 = .ok (.isub, 1) := by decide +kernel
theorem dX3_closeStack_139 : decode cX3_closeStack 139 = .ok (.aload_n 0, 1) := by decide +kernel
theorem dX3_closeStack_140 : decode cX3_closeStack 140 = .ok (.iload_n 1, 1) := by decide +kernel
theorem dX3_closeStack_141 : decode cX3_closeStack 141 = .ok (.iload_n 3, 1) := by decide +kernel
theorem dX3_closeStack_142 : decode cX3_closeStack 142 = .ok (.iconst 1, 1) := by decide +kernel
theorem dX3_closeStack_143 : decode cX3_closeStack 143 = .ok (.isub, 1) := by decide +kernel
theorem dX3_closeStack_144 : decode cX3_closeStack 144 = .ok (.invokevirtual 69, 3) := by decide +kernel
theorem dX3_closeStack_147 : decode cX3_closeStack 147 = .ok (.iload 4, 2) := by decide +kernel
theorem dX3_closeStack_149 : decode cX3_closeStack 149 = .ok (.iadd, 1) := by decide +kernel
theorem dX3_closeStack_150 : decode cX3_closeStack 150 = .ok (.invokevirtual 80, 3) := by decide +kernel
theorem dX3_closeStack_153 : decode cX3_closeStack 153 = .ok (.aload_n 0, 1) := by decide +kernel
theorem dX3_closeStack_154 : decode cX3_closeStack 154 = .ok (.iload_n 1, 1) := by decide +kernel
theorem dX3_closeStack_155 : decode cX3_closeStack 155 = .ok (.iconst 5, 1) := by decide +kernel
theorem dX3_closeStack_156 : decode cX3_closeStack 156 = .ok (.aload_n 0, 1) := by decide +kernel
theorem dX3_closeStack_157 : decode cX3_closeStack 157 = .ok (.iload_n 1, 1) := by decide +kernel
theorem dX3_closeStack_158 : decode cX3_closeStack 158 = .ok (.iconst 5, 1) := by decide +kernel
theorem dX3_closeStack_159 : decode cX3_closeStack 159 = .ok (.invokevirtual 69, 3) := by decide +kernel
theorem dX3_closeStack_162 : decode cX3_closeStack 162 = .ok (.iconst 1, 1) := by decide +kernel
theorem dX3_closeStack_163 : decode cX3_closeStack 163 = .ok (.isub, 1) := by decide +kernel
theorem dX3_closeStack_164 : decode cX3_closeStack 164 = .ok (.invokevirtual 80, 3) := by decide +kernel
theorem dX3_closeStack_167 : decode cX3_closeStack 167 = .ok (.return_, 1) := by decide +kernel
theorem dX3_output_0 : decode cX3_output 0 = .ok (.aload_n 0, 1) := by decide +kernel
theorem dX3_output_1 : decode cX3_output 1 = .ok (.getfield 7, 3) := by decide +kernel
theorem dX3_output_4 : decode cX3_output 4 = .ok (.sipush 267, 3) := by decide +kernel
theorem dX3_output_7 : decode cX3_output 7 = .ok (.iaload, 1) := by decide +kernel
theorem dX3_output_8 : decode cX3_output 8 = .ok (.bipush 20, 2) := by decide +kernel
theorem dX3_output_10 : decode cX3_output 10 = .ok (.if_icmp .ne 51, 3) := by decide +kernel
theorem dX3_output_13 : decode cX3_output 13 = .ok (.iconst 1, 1) := by decide +kernel
theorem dX3_output_14 : decode cX3_output 14 = .ok (.istore_n 2, 1) := by decide +kernel
theorem dX3_output_15 : decode cX3_output 15 = .ok (.iload_n 2, 1) := by decide +kernel
theorem dX3_output_16 : decode cX3_output 16 = .ok (.bipush 20, 2) := by decide +kernel
theorem dX3_output_18 : decode cX3_output 18 = .ok (.if_icmp .ge 31, 3) := by decide +kernel
theorem dX3_output_21 : decode cX3_output 21 = .ok (.aload_n 0, 1) := by decide +kernel
theorem dX3_output_22 : decode cX3_output 22 = .ok (.getfield 7, 3) := by decide +kernel
theorem dX3_output_25 : decode cX3_output 25 = .ok (.sipush 267, 3) := by decide +kernel
theorem dX3_output_28 : decode cX3_output 28 = .ok (.iload_n 2, 1) := by decide +kernel
theorem dX3_output_29 : decode cX3_output 29 = .ok (.iadd, 1) := by decide +kernel
theorem dX3_output_30 : decode cX3_output 30 = .ok (.aload_n 0, 1) := by decide +kernel
theorem dX3_output_31 : decode cX3_output 31 = .ok (.getfield 7, 3) := by decide +kernel
theorem dX3_output_34 : decode cX3_output 34 = .ok (.sipush 267, 3) := by decide +kernel
theorem dX3_output_37 : decode cX3_output 37 = .ok (.iload_n 2, 1) := by decide +kernel
theorem dX3_output_38 : decode cX3_output 38 = .ok (.iadd, 1) := by decide +kernel
theorem dX3_output_39 : decode cX3_output 39 = .ok (.iconst 1, 1) := by decide +kernel
theorem dX3_output_40 : decode cX3_output 40 = .ok (.iadd, 1) := by decide +kernel
theorem dX3_output_41 : decode cX3_output 41 = .ok (.iaload, 1) := by decide +kernel
theorem dX3_output_42 : decode cX3_output 42 = .ok (.iastore, 1) := by decide +kernel
theorem dX3_output_43 : decode cX3_output 43 = .ok (.iinc 2 1, 3) := by decide +kernel
theorem dX3_output_46 : decode cX3_output 46 = .ok (.goto (-31), 3) := by decide +kernel
theorem dX3_output_49 : decode cX3_output 49 = .ok (.aload_n 0, 1) := by decide +kernel
theorem dX3_output_50 : decode cX3_output 50 = .ok (.getfield 7, 3) := by decide +kernel
theorem dX3_output_53 : decode cX3_output 53 = .ok (.sipush 267, 3) := by decide +kernel
theorem dX3_output_56 : decode cX3_output 56 = .ok (.dup2, 1) := by decide +kernel
theorem dX3_output_57 : decode cX3_output 57 = .ok (.iaload, 1) := by decide +kernel
theorem dX3_output_58 : decode cX3_output 58 = .ok (.iconst 1, 1) := by decide +kernel
theorem dX3_output_59 : decode cX3_output 59 = .ok (.isub, 1) := by decide +kernel
theorem dX3_output_60 : decode cX3_output 60 = .ok (.iastore, 1) := by decide +kernel
theorem dX3_output_61 : decode cX3_output 61 = .ok (.aload_n 0, 1) := by decide +kernel
theorem dX3_output_62 : decode cX3_output 62 = .ok (.getfield 7, 3) := by decide +kernel
theorem dX3_output_65 : decode cX3_output 65 = .ok (.sipush 267, 3) := by decide +kernel
theorem dX3_output_68 : decode cX3_output 68 = .ok (.dup2, 1) := by decide +kernel
theorem dX3_output_69 : decode cX3_output 69 = .ok (.iaload, 1) := by decide +kernel
theorem dX3_output_70 : decode cX3_output 70 = .ok (.iconst 1, 1) := by decide +kernel
theorem dX3_output_71 : decode cX3_output 71 = .ok (.iadd, 1) := by decide +kernel
theorem dX3_output_72 : decode cX3_output 72 = .ok (.iastore, 1) := by decide +kernel
theorem dX3_output_73 : decode cX3_output 73 = .ok (.aload_n 0, 1) := by decide +kernel
theorem dX3_output_74 : decode cX3_output 74 = .ok (.getfield 7, 3) := by decide +kernel
theorem dX3_output_77 : decode cX3_output 77 = .ok (.sipush 267, 3) := by decide +kernel
theorem dX3_output_80 : decode cX3_output 80 = .ok (.aload_n 0, 1) := by decide +kernel
theorem dX3_output_81 : decode cX3_output 81 = .ok (.getfield 7, 3) := by decide +kernel
theorem dX3_output_84 : decode cX3_output 84 = .ok (.sipush 267, 3) := by decide +kernel
theorem dX3_output_87 : decode cX3_output 87 = .ok (.iaload, 1) := by decide +kernel
theorem dX3_output_88 : decode cX3_output 88 = .ok (.iadd, 1) := by decide +kernel
theorem dX3_output_89 : decode cX3_output 89 = .ok (.iload_n 1, 1) := by decide +kernel
theorem dX3_output_90 : decode cX3_output 90 = .ok (.iastore, 1) := by decide +kernel
theorem dX3_output_91 : decode cX3_output 91 = .ok (.aload_n 0, 1) := by decide +kernel
theorem dX3_output_92 : decode cX3_output 92 = .ok (.getfield 7, 3) := by decide +kernel
theorem dX3_output_95 : decode cX3_output 95 = .ok (.sipush 288, 3) := by decide +kernel
theorem dX3_output_98 : decode cX3_output 98 = .ok (.dup2, 1) := by decide +kernel
theorem dX3_output_99 : decode cX3_output 99 = .ok (.iaload, 1) := by decide +kernel
theorem dX3_output_100 : decode cX3_output 100 = .ok (.iconst 1, 1) := by decide +kernel
theorem dX3_output_101 : decode cX3_output 101 = .ok (.iadd, 1) := by decide +kernel
theorem dX3_output_102 : decode cX3_output 102 = .ok (.iastore, 1) := by decide +kernel
theorem dX3_output_103 : decode cX3_output 103 = .ok (.return_, 1) := by decide +kernel
theorem dX3_input_0 : decode cX3_input 0 = .ok (.aload_n 0, 1) := by decide +kernel
theorem dX3_input_1 : decode cX3_input 1 = .ok (.getfield 7, 3) := by decide +kernel
theorem dX3_input_4 : decode cX3_input 4 = .ok (.sipush 250, 3) := by decide +kernel
theorem dX3_input_7 : decode cX3_input 7 = .ok (.iaload, 1) := by decide +kernel
theorem dX3_input_8 : decode cX3_input 8 = .ok (.ifCond .ne 10, 3) := by decide +kernel
theorem dX3_input_11 : decode cX3_input 11 = .ok (.aload_n 0, 1) := by decide +kernel
theorem dX3_input_12 : decode cX3_input 12 = .ok (.iload_n 1, 1) := by decide +kernel
theorem dX3_input_13 : decode cX3_input 13 = .ok (.iconst 2, 1) := by decide +kernel
theorem dX3_input_14 : decode cX3_input 14 = .ok (.invokevirtual 93, 3) := by decide +kernel
theorem dX3_input_17 : decode cX3_input 17 = .ok (.return_, 1) := by decide +kernel
theorem dX3_input_18 : decode cX3_input 18 = .ok (.aload_n 0, 1) := by decide +kernel
theorem dX3_input_19 : decode cX3_input 19 = .ok (.getfield 7, 3) := by decide +kernel
theorem dX3_input_22 : decode cX3_input 22 = .ok (.sipush 251, 3) := by decide +kernel
theorem dX3_input_25 : decode cX3_input 25 = .ok (.iaload, 1) := by decide +kernel
theorem dX3_input_26 : decode cX3_input 26 = .ok (.istore_n 2, 1) := by decide +kernel
theorem dX3_input_27 : decode cX3_input 27 = .ok (.iconst 1, 1) := by decide +kernel
theorem dX3_input_28 : decode cX3_input 28 = .ok (.istore_n 3, 1) := by decide +kernel
theorem dX3_input_29 : decode cX3_input 29 = .ok (.iload_n 3, 1) := by decide +kernel
theorem dX3_input_30 : decode cX3_input 30 = .ok (.aload_n 0, 1) := by decide +kernel
theorem dX3_input_31 : decode cX3_input 31 = .ok (.getfield 7, 3) := by decide +kernel
theorem dX3_input_34 : decode cX3_input 34 = .ok (.sipush 250, 3) := by decide +kernel
theorem dX3_input_37 : decode cX3_input 37 = .ok (.iaload, 1) := by decide +kernel
theorem dX3_input_38 : decode cX3_input 38 = .ok (.if_icmp .ge 31, 3) := by decide +kernel
theorem dX3_input_41 : decode cX3_input 41 = .ok (.aload_n 0, 1) := by decide +kernel
theorem dX3_input_42 : decode cX3_input 42 = .ok (.getfield 7, 3) := by decide +kernel
theorem dX3_input_45 : decode cX3_input 45 = .ok (.sipush 250, 3) := by decide +kernel
theorem dX3_input_48 : decode cX3_input 48 = .ok (.iload_n 3, 1) := by decide +kernel
theorem dX3_input_49 : decode cX3_input 49 = .ok (.iadd, 1) := by decide +kernel
theorem dX3_input_50 : decode cX3_input 50 = .ok (.aload_n 0, 1) := by decide +kernel
theorem dX3_input_51 : decode cX3_input 51 = .ok (.getfield 7, 3) := by decide +kernel
theorem dX3_input_54 : decode cX3_input 54 = .ok (.sipush 250, 3) := by decide +kernel
theorem dX3_input_57 : decode cX3_input 57 = .ok (.iload_n 3, 1) := by decide +kernel
theorem dX3_input_58 : decode cX3_input 58 = .ok (.iadd, 1) := by decide +kernel
theorem dX3_input_59 : decode cX3_input 59 = .ok (.iconst 1, 1) := by decide +kernel
theorem dX3_input_60 : decode cX3_input 60 = .ok (.iadd, 1) := by decide +kernel
theorem dX3_input_61 : decode cX3_input 61 = .ok (.iaload, 1) := by decide +kernel
theorem dX3_input_62 : decode cX3_input 62 = .ok (.iastore, 1) := by decide +kernel
theorem dX3_input_63 : decode cX3_input 63 = .ok (.iinc 3 1, 3) := by decide +kernel
theorem dX3_input_66 : decode cX3_input 66 = .ok (.goto (-37), 3) := by decide +kernel
theorem dX3_input_69 : decode cX3_input 69 = .ok (.aload_n 0, 1) := by decide +kernel
theorem dX3_input_70 : decode cX3_input 70 = .ok (.getfield 7, 3) := by decide +kernel
theorem dX3_input_73 : decode cX3_input 73 = .ok (.sipush 250, 3) := by decide +kernel
theorem dX3_input_76 : decode cX3_input 76 = .ok (.aload_n 0, 1) := by decide +kernel
theorem dX3_input_77 : decode cX3_input 77 = .ok (.getfield 7, 3) := by decide +kernel
theorem dX3_input_80 : decode cX3_input 80 = .ok (.sipush 250, 3) := by decide +kernel
theorem dX3_input_83 : decode cX3_input 83 = .ok (.iaload, 1) := by decide +kernel
theorem dX3_input_84 : decode cX3_input 84 = .ok (.iadd, 1) := by decide +kernel
theorem dX3_input_85 : decode cX3_input 85 = .ok (.iconst 0, 1) := by decide +kernel
theorem dX3_input_86 : decode cX3_input 86 = .ok (.iastore, 1) := by decide +kernel
theorem dX3_input_87 : decode cX3_input 87 = .ok (.aload_n 0, 1) := by decide +kernel
theorem dX3_input_88 : decode cX3_input 88 = .ok (.getfield 7, 3) := by decide +kernel
theorem dX3_input_91 : decode cX3_input 91 = .ok (.sipush 250, 3) := by decide +kernel
theorem dX3_input_94 : decode cX3_input 94 = .ok (.dup2, 1) := by decide +kernel
theorem dX3_input_95 : decode cX3_input 95 = .ok (.iaload, 1) := by decide +kernel
theorem dX3_input_96 : decode cX3_input 96 = .ok (.iconst 1, 1) := by decide +kernel
theorem dX3_input_97 : decode cX3_input 97 = .ok (.isub, 1) := by decide +kernel
theorem dX3_input_98 : decode cX3_input 98 = .ok (.iastore, 1) := by decide +kernel
theorem dX3_input_99 : decode cX3_input 99 = .ok (.aload_n 0, 1) := by decide +kernel
theorem dX3_input_100 : decode cX3_input 100 = .ok (.iload_n 1, 1) := by decide +kernel
theorem dX3_input_101 : decode cX3_input 101 = .ok (.iload_n 2, 1) := by decide +kernel
theorem dX3_input_102 : decode cX3_input 102 = .ok (.invokevirtual 97, 3) := by decide +kernel
theorem dX3_input_105 : decode cX3_input 105 = .ok (.return_, 1) := by decide +kernel
theorem dX3_split_0 : decode cX3_split 0 = .ok (.aload_n 0, 1) := by decide +kernel
theorem dX3_split_1 : decode cX3_split 1 = .ok (.getfield 7, 3) := by decide +kernel
theorem dX3_split_4 : decode cX3_split 4 = .ok (.sipush 145, 3) := by decide +kernel
theorem dX3_split_7 : decode cX3_split 7 = .ok (.iaload, 1) := by decide +kernel
theorem dX3_split_8 : decode cX3_split 8 = .ok (.iconst 4, 1) := by decide +kernel
theorem dX3_split_9 : decode cX3_split 9 = .ok (.if_icmp .ne 4, 3) := by decide +kernel
theorem dX3_split_12 : decode cX3_split 12 = .ok (.return_, 1) := by decide +kernel
theorem dX3_split_13 : decode cX3_split 13 = .ok (.aload_n 0, 1) := by decide +kernel
theorem dX3_split_14 : decode cX3_split 14 = .ok (.getfield 7, 3) := by decide +kernel
theorem dX3_split_17 : decode cX3_split 17 = .ok (.sipush 145, 3) := by decide +kernel
theorem dX3_split_20 : decode cX3_split 20 = .ok (.iaload, 1) := by decide +kernel
theorem dX3_split_21 : decode cX3_split 21 = .ok (.istore_n 2, 1) := by decide +kernel
theorem dX3_split_22 : decode cX3_split 22 = .ok (.iconst 0, 1) := by decide +kernel
theorem dX3_split_23 : decode cX3_split 23 = .ok (.istore_n 3, 1) := by decide +kernel
theorem dX3_split_24 : decode cX3_split 24 = .ok (.iload_n 3, 1) := by decide +kernel
theorem dX3_split_25 : decode cX3_split 25 = .ok (.bipush 25, 2) := by decide +kernel
theorem dX3_split_27 : decode cX3_split 27 = .ok (.if_icmp .ge 21, 3) := by decide +kernel
theorem dX3_split_30 : decode cX3_split 30 = .ok (.aload_n 0, 1) := by decide +kernel
theorem dX3_split_31 : decode cX3_split 31 = .ok (.iload_n 2, 1) := by decide +kernel
theorem dX3_split_32 : decode cX3_split 32 = .ok (.iload_n 3, 1) := by decide +kernel
theorem dX3_split_33 : decode cX3_split 33 = .ok (.aload_n 0, 1) := by decide +kernel
theorem dX3_split_34 : decode cX3_split 34 = .ok (.iload_n 1, 1) := by decide +kernel
theorem dX3_split_35 : decode cX3_split 35 = .ok (.iload_n 3, 1) := by decide +kernel
theorem dX3_split_36 : decode cX3_split 36 = .ok (.invokevirtual 69, 3) := by decide +kernel
theorem dX3_split_39 : decode cX3_split 39 = .ok (.invokevirtual 80, 3) := by decide +kernel
theorem dX3_split_42 : decode cX3_split 42 = .ok (.iinc 3 1, 3) := by decide +kernel
theorem dX3_split_45 : decode cX3_split 45 = .ok (.goto (-21), 3) := by decide +kernel
theorem dX3_split_48 : decode cX3_split 48 = .ok (.aload_n 0, 1) := by decide +kernel
theorem dX3_split_49 : decode cX3_split 49 = .ok (.iload_n 2, 1) := by decide +kernel
theorem dX3_split_50 : decode cX3_split 50 = .ok (.iconst 3, 1) := by decide +kernel
theorem dX3_split_51 : decode cX3_split 51 = .ok (.iconst 0, 1) := by decide +kernel
theorem dX3_split_52 : decode cX3_split 52 = .ok (.invokevirtual 80, 3) := by decide +kernel
theorem dX3_split_55 : decode cX3_split 55 = .ok (.aload_n 0, 1) := by decide +kernel
theorem dX3_split_56 : decode cX3_split 56 = .ok (.iload_n 2, 1) := by decide +kernel
theorem dX3_split_57 : decode cX3_split 57 = .ok (.iconst 4, 1) := by decide +kernel
theorem dX3_split_58 : decode cX3_split 58 = .ok (.iconst 0, 1) := by decide +kernel
theorem dX3_split_59 : decode cX3_split 59 = .ok (.invokevirtual 80, 3) := by decide +kernel
theorem dX3_split_62 : decode cX3_split 62 = .ok (.aload_n 0, 1) := by decide +kernel
theorem dX3_split_63 : decode cX3_split 63 = .ok (.iload_n 2, 1) := by decide +kernel
theorem dX3_split_64 : decode cX3_split 64 = .ok (.iconst 2, 1) := by decide +kernel
theorem dX3_split_65 : decode cX3_split 65 = .ok (.invokevirtual 93, 3) := by decide +kernel
theorem dX3_split_68 : decode cX3_split 68 = .ok (.aload_n 0, 1) := by decide +kernel
theorem dX3_split_69 : decode cX3_split 69 = .ok (.iload_n 2, 1) := by decide +kernel
theorem dX3_split_70 : decode cX3_split 70 = .ok (.invokevirtual 100, 3) := by decide +kernel
theorem dX3_split_73 : decode cX3_split 73 = .ok (.aload_n 0, 1) := by decide +kernel
theorem dX3_split_74 : decode cX3_split 74 = .ok (.getfield 7, 3) := by decide +kernel
theorem dX3_split_77 : decode cX3_split 77 = .ok (.sipush 145, 3) := by decide +kernel
theorem dX3_split_80 : decode cX3_split 80 = .ok (.iaload, 1) := by decide +kernel
theorem dX3_split_81 : decode cX3_split 81 = .ok (.istore_n 3, 1) := by decide +kernel
theorem dX3_split_82 : decode cX3_split 82 = .ok (.aload_n 0, 1) := by decide +kernel
theorem dX3_split_83 : decode cX3_split 83 = .ok (.getfield 7, 3) := by decide +kernel
theorem dX3_split_86 : decode cX3_split 86 = .ok (.sipush 146, 3) := by decide +kernel
theorem dX3_split_89 : decode cX3_split 89 = .ok (.iload_n 3, 1) := by decide +kernel
theorem dX3_split_90 : decode cX3_split 90 = .ok (.iadd, 1) := by decide +kernel
theorem dX3_split_91 : decode cX3_split 91 = .ok (.iconst 1, 1) := by decide +kernel
theorem dX3_split_92 : decode cX3_split 92 = .ok (.isub, 1) := by decide +kernel
theorem dX3_split_93 : decode cX3_split 93 = .ok (.iaload, 1) := by decide +kernel
theorem dX3_split_94 : decode cX3_split 94 = .ok (.iload_n 1, 1) := by decide +kernel
theorem dX3_split_95 : decode cX3_split 95 = .ok (.if_icmp .eq 31, 3) := by decide +kernel
theorem dX3_split_98 : decode cX3_split 98 = .ok (.aload_n 0, 1) := by decide +kernel
theorem dX3_split_99 : decode cX3_split 99 = .ok (.getfield 7, 3) := by decide +kernel
theorem dX3_split_102 : decode cX3_split 102 = .ok (.sipush 146, 3) := by decide +kernel
theorem dX3_split_105 : decode cX3_split 105 = .ok (.iload_n 3, 1) := by decide +kernel
theorem dX3_split_106 : decode cX3_split 106 = .ok (.iadd, 1) := by decide +kernel
theorem dX3_split_107 : decode cX3_split 107 = .ok (.aload_n 0, 1) := by decide +kernel
theorem dX3_split_108 : decode cX3_split 108 = .ok (.getfield 7, 3) := by decide +kernel
theorem dX3_split_111 : decode cX3_split 111 = .ok (.sipush 146, 3) := by decide +kernel
theorem dX3_split_114 : decode cX3_split 114 = .ok (.iload_n 3, 1) := by decide +kernel
theorem dX3_split_115 : decode cX3_split 115 = .ok (.iadd, 1) := by decide +kernel
theorem dX3_split_116 : decode cX3_split 116 = .ok (.iconst 1, 1) := by decide +kernel
theorem dX3_split_117 : decode cX3_split 117 = .ok (.isub, 1) := by decide +kernel
theorem dX3_split_118 : decode cX3_split 118 = .ok (.iaload, 1) := by decide +kernel
theorem dX3_split_119 : decode cX3_split 119 = .ok (.iastore, 1) := by decide +kernel
theorem dX3_split_120 : decode cX3_split 120 = .ok (.iinc 3 (-1), 3) := by decide +kernel
theorem dX3_split_123 : decode cX3_split 123 = .ok (.goto (-41), 3) := by decide +kernel
theorem dX3_split_126 : decode cX3_split 126 = .ok (.aload_n 0, 1) := by decide +kernel
theorem dX3_split_127 : decode cX3_split 127 = .ok (.getfield 7, 3) := by decide +kernel
theorem dX3_split_130 : decode cX3_split 130 = .ok (.sipush 146, 3) := by decide +kernel
theorem dX3_split_133 : decode cX3_split 133 = .ok (.iload_n 3, 1) := by decide +kernel
theorem dX3_split_134 : decode cX3_split 134 = .ok (.iadd, 1) := by decide +kernel
theorem dX3_split_135 : decode cX3_split 135 = .ok (.iload_n 2, 1) := by decide +kernel
theorem dX3_split_136 : decode cX3_split 136 = .ok (.iastore, 1) := by decide +kernel
theorem dX3_split_137 : decode cX3_split 137 = .ok (.aload_n 0, 1) := by decide +kernel
theorem dX3_split_138 : decode cX3_split 138 = .ok (.getfield 7, 3) := by decide +kernel
theorem dX3_split_141 : decode cX3_split 141 = .ok (.sipush 145, 3) := by decide +kernel
theorem dX3_split_144 : decode cX3_split 144 = .ok (.dup2, 1) := by decide +kernel
theorem dX3_split_145 : decode cX3_split 145 = .ok (.iaload, 1) := by decide +kernel
theorem dX3_split_146 : decode cX3_split 146 = .ok (.iconst 1, 1) := by decide +kernel
theorem dX3_split_147 : decode cX3_split 147 = .ok (.iadd, 1) := by decide +kernel
theorem dX3_split_148 : decode cX3_split 148 = .ok (.iastore, 1) := by decide +kernel
theorem dX3_split_149 : decode cX3_split 149 = .ok (.return_, 1) := by decide +kernel
theorem dX3_swapTop_0 : decode cX3_swapTop 0 = .ok (.aload_n 0, 1) := by decide +kernel
theorem dX3_swapTop_1 : decode cX3_swapTop 1 = .ok (.iload_n 1, 1) := by decide +kernel
theorem dX3_swapTop_2 : decode cX3_swapTop 2 = .ok (.invokevirtual 87, 3) := by decide +kernel
theorem dX3_swapTop_5 : decode cX3_swapTop 5 = .ok (.istore_n 2, 1) := by decide +kernel
theorem dX3_swapTop_6 : decode cX3_swapTop 6 = .ok (.aload_n 0, 1) := by decide +kernel
theorem dX3_swapTop_7 : decode cX3_swapTop 7 = .ok (.iload_n 1, 1) := by decide +kernel
theorem dX3_swapTop_8 : decode cX3_swapTop 8 = .ok (.invokevirtual 87, 3) := by decide +kernel
theorem dX3_swapTop_11 : decode cX3_swapTop 11 = .ok (.istore_n 3, 1) := by decide +kernel
theorem dX3_swapTop_12 : decode cX3_swapTop 12 = .ok (.aload_n 0, 1) := by decide +kernel
theorem dX3_swapTop_13 : decode cX3_swapTop 13 = .ok (.iload_n 1, 1) := by decide +kernel
theorem dX3_swapTop_14 : decode cX3_swapTop 14 = .ok (.iload_n 2, 1) := by decide +kernel
theorem dX3_swapTop_15 : decode cX3_swapTop 15 = .ok (.invokevirtual 97, 3) := by decide +kernel
theorem dX3_swapTop_18 : decode cX3_swapTop 18 = .ok (.aload_n 0, 1) := by decide +kernel
theorem dX3_swapTop_19 : decode cX3_swapTop 19 = .ok (.iload_n 1, 1) := by decide +kernel
theorem dX3_swapTop_20 : decode cX3_swapTop 20 = .ok (.iconst 3, 1) := by decide +kernel
theorem dX3_swapTop_21 : decode cX3_swapTop 21 = .ok (.invokevirtual 69, 3) := by decide +kernel
theorem dX3_swapTop_24 : decode cX3_swapTop 24 = .ok (.ifCond .ne 9, 3) := by decide +kernel
theorem dX3_swapTop_27 : decode cX3_swapTop 27 = .ok (.aload_n 0, 1) := by decide +kernel
theorem dX3_swapTop_28 : decode cX3_swapTop 28 = .ok (.iload_n 1, 1) := by decide +kernel
theorem dX3_swapTop_29 : decode cX3_swapTop 29 = .ok (.iload_n 3, 1) := by decide +kernel
theorem dX3_swapTop_30 : decode cX3_swapTop 30 = .ok (.invokevirtual 97, 3) := by decide +kernel
theorem dX3_swapTop_33 : decode cX3_swapTop 33 = .ok (.return_, 1) := by decide +kernel
theorem dX3_duplicate_0 : decode cX3_duplicate 0 = .ok (.aload_n 0, 1) := by decide +kernel
theorem dX3_duplicate_1 : decode cX3_duplicate 1 = .ok (.iload_n 1, 1) := by decide +kernel
theorem dX3_duplicate_2 : decode cX3_duplicate 2 = .ok (.invokevirtual 87, 3) := by decide +kernel
theorem dX3_duplicate_5 : decode cX3_duplicate 5 = .ok (.istore_n 2, 1) := by decide +kernel
theorem dX3_duplicate_6 : decode cX3_duplicate 6 = .ok (.aload_n 0, 1) := by decide +kernel
theorem dX3_duplicate_7 : decode cX3_duplicate 7 = .ok (.iload_n 1, 1) := by decide +kernel
theorem dX3_duplicate_8 : decode cX3_duplicate 8 = .ok (.iload_n 2, 1) := by decide +kernel
theorem dX3_duplicate_9 : decode cX3_duplicate 9 = .ok (.invokevirtual 97, 3) := by decide +kernel
theorem dX3_duplicate_12 : decode cX3_duplicate 12 = .ok (.aload_n 0, 1) := by decide +kernel
theorem dX3_duplicate_13 : decode cX3_duplicate 13 = .ok (.iload_n 1, 1) := by decide +kernel
theorem dX3_duplicate_14 : decode cX3_duplicate 14 = .ok (.iconst 3, 1) := by decide +kernel
theorem dX3_duplicate_15 : decode cX3_duplicate 15 = .ok (.invokevirtual 69, 3) := by decide +kernel
theorem dX3_duplicate_18 : decode cX3_duplicate 18 = .ok (.ifCond .ne 9, 3) := by decide +kernel
theorem dX3_duplicate_21 : decode cX3_duplicate 21 = .ok (.aload_n 0, 1) := by decide +kernel
theorem dX3_duplicate_22 : decode cX3_duplicate 22 = .ok (.iload_n 1, 1) := by decide +kernel
theorem dX3_duplicate_23 : decode cX3_duplicate 23 = .ok (.iload_n 2, 1) := by decide +kernel
theorem dX3_duplicate_24 : decode cX3_duplicate 24 = .ok (.invokevirtual 97, 3) := by decide +kernel
theorem dX3_duplicate_27 : decode cX3_duplicate 27 = .ok (.return_, 1) := by decide +kernel
theorem dX3_store_0 : decode cX3_store 0 = .ok (.aload_n 0, 1) := by decide +kernel
theorem dX3_store_1 : decode cX3_store 1 = .ok (.iload_n 1, 1) := by decide +kernel
theorem dX3_store_2 : decode cX3_store 2 = .ok (.invokevirtual 87, 3) := by decide +kernel
theorem dX3_store_5 : decode cX3_store 5 = .ok (.istore_n 2, 1) := by decide +kernel
theorem dX3_store_6 : decode cX3_store 6 = .ok (.aload_n 0, 1) := by decide +kernel
theorem dX3_store_7 : decode cX3_store 7 = .ok (.iload_n 1, 1) := by decide +kernel
theorem dX3_store_8 : decode cX3_store 8 = .ok (.invokevirtual 87, 3) := by decide +kernel
theorem dX3_store_11 : decode cX3_store 11 = .ok (.istore_n 3, 1) := by decide +kernel
theorem dX3_store_12 : decode cX3_store 12 = .ok (.aload_n 0, 1) := by decide +kernel
theorem dX3_store_13 : decode cX3_store 13 = .ok (.iload_n 1, 1) := by decide +kernel
theorem dX3_store_14 : decode cX3_store 14 = .ok (.invokevirtual 87, 3) := by decide +kernel
theorem dX3_store_17 : decode cX3_store 17 = .ok (.istore 4, 2) := by decide +kernel
theorem dX3_store_19 : decode cX3_store 19 = .ok (.iload 4, 2) := by decide +kernel
theorem dX3_store_21 : decode cX3_store 21 = .ok (.bipush 32, 2) := by decide +kernel
theorem dX3_store_23 : decode cX3_store 23 = .ok (.bipush 126, 2) := by decide +kernel
theorem dX3_store_25 : decode cX3_store 25 = .ok (.invokestatic 44, 3) := by decide +kernel
theorem dX3_store_28 : decode cX3_store 28 = .ok (.ifCond .eq 15, 3) := by decide +kernel
theorem dX3_store_31 : decode cX3_store 31 = .ok (.aload_n 0, 1) := by decide +kernel
end
section
theorem dX3_store_32 : decode cX3_store 32 = .ok (.getfield 7, 3) := by decide +kernel
theorem dX3_store_35 : decode cX3_store 35 = .ok (.iload_n 3, 1) := by decide +kernel
theorem dX3_store_36 : decode cX3_store 36 = .ok (.iload_n 2, 1) := by decide +kernel
theorem dX3_store_37 : decode cX3_store 37 = .ok (.invokestatic 104, 3) := by decide +kernel
theorem dX3_store_40 : decode cX3_store 40 = .ok (.iload 4, 2) := by decide +kernel
theorem dX3_store_42 : decode cX3_store 42 = .ok (.iastore, 1) := by decide +kernel
theorem dX3_store_43 : decode cX3_store 43 = .ok (.return_, 1) := by decide +kernel
theorem dX3_fetch_0 : decode cX3_fetch 0 = .ok (.aload_n 0, 1) := by decide +kernel
theorem dX3_fetch_1 : decode cX3_fetch 1 = .ok (.iload_n 1, 1) := by decide +kernel
theorem dX3_fetch_2 : decode cX3_fetch 2 = .ok (.invokevirtual 87, 3) := by decide +kernel
theorem dX3_fetch_5 : decode cX3_fetch 5 = .ok (.istore_n 2, 1) := by decide +kernel
theorem dX3_fetch_6 : decode cX3_fetch 6 = .ok (.aload_n 0, 1) := by decide +kernel
theorem dX3_fetch_7 : decode cX3_fetch 7 = .ok (.iload_n 1, 1) := by decide +kernel
theorem dX3_fetch_8 : decode cX3_fetch 8 = .ok (.invokevirtual 87, 3) := by decide +kernel
theorem dX3_fetch_11 : decode cX3_fetch 11 = .ok (.istore_n 3, 1) := by decide +kernel
theorem dX3_fetch_12 : decode cX3_fetch 12 = .ok (.aload_n 0, 1) := by decide +kernel
theorem dX3_fetch_13 : decode cX3_fetch 13 = .ok (.iload_n 1, 1) := by decide +kernel
theorem dX3_fetch_14 : decode cX3_fetch 14 = .ok (.aload_n 0, 1) := by decide +kernel
theorem dX3_fetch_15 : decode cX3_fetch 15 = .ok (.getfield 7, 3) := by decide +kernel
theorem dX3_fetch_18 : decode cX3_fetch 18 = .ok (.iload_n 3, 1) := by decide +kernel
theorem dX3_fetch_19 : decode cX3_fetch 19 = .ok (.iload_n 2, 1) := by decide +kernel
theorem dX3_fetch_20 : decode cX3_fetch 20 = .ok (.invokestatic 104, 3) := by decide +kernel
theorem dX3_fetch_23 : decode cX3_fetch 23 = .ok (.iaload, 1) := by decide +kernel
theorem dX3_fetch_24 : decode cX3_fetch 24 = .ok (.invokevirtual 97, 3) := by decide +kernel
theorem dX3_fetch_27 : decode cX3_fetch 27 = .ok (.return_, 1) := by decide +kernel
theorem dX3_execute_0 : decode cX3_execute 0 = .ok (.iload_n 2, 1) := by decide +kernel
theorem dX3_execute_1 : decode cX3_execute 1 = .ok (.bipush 48, 2) := by decide +kernel
theorem dX3_execute_3 : decode cX3_execute 3 = .ok (.bipush 57, 2) := by decide +kernel
theorem dX3_execute_5 : decode cX3_execute 5 = .ok (.invokestatic 44, 3) := by decide +kernel
theorem dX3_execute_8 : decode cX3_execute 8 = .ok (.ifCond .eq 13, 3) := by decide +kernel
theorem dX3_execute_11 : decode cX3_execute 11 = .ok (.aload_n 0, 1) := by decide +kernel
theorem dX3_execute_12 : decode cX3_execute 12 = .ok (.iload_n 1, 1) := by decide +kernel
theorem dX3_execute_13 : decode cX3_execute 13 = .ok (.iload_n 2, 1) := by decide +kernel
theorem dX3_execute_14 : decode cX3_execute 14 = .ok (.bipush 48, 2) := by decide +kernel
theorem dX3_execute_16 : decode cX3_execute 16 = .ok (.isub, 1) := by decide +kernel
theorem dX3_execute_17 : decode cX3_execute 17 = .ok (.invokevirtual 97, 3) := by decide +kernel
theorem dX3_execute_20 : decode cX3_execute 20 = .ok (.return_, 1) := by decide +kernel
theorem dX3_execute_21 : decode cX3_execute 21 = .ok (.iload_n 2, 1) := by decide +kernel
theorem dX3_execute_22 : decode cX3_execute 22 = .ok (.tableswitch 672 33 126 #[418, 672, 575, 455, 390, 672, 672, 672, 672, 390, 390, 672, 390, 599, 390, 672, 672, 672, 672, 672, 672, 672, 672, 672, 672, 439, 672, 484, 672, 464, 672, 662, 672, 672, 672, 672, 672, 672, 672, 672, 672, 672, 672, 672, 672, 672, 672, 672, 672, 672, 672, 672, 672, 672, 672, 672, 672, 672, 548, 447, 557, 494, 504, 390, 672, 672, 672, 672, 672, 672, 583, 672, 672, 672, 672, 672, 672, 672, 672, 591, 672, 566, 672, 638, 672, 474, 619, 672, 672, 672, 646, 526, 654, 611], 390) := by decide +kernel
theorem dX3_execute_412 : decode cX3_execute 412 = .ok (.aload_n 0, 1) := by decide +kernel
theorem dX3_execute_413 : decode cX3_execute 413 = .ok (.iload_n 1, 1) := by decide +kernel
theorem dX3_execute_414 : decode cX3_execute 414 = .ok (.invokevirtual 87, 3) := by decide +kernel
theorem dX3_execute_417 : decode cX3_execute 417 = .ok (.istore_n 3, 1) := by decide +kernel
theorem dX3_execute_418 : decode cX3_execute 418 = .ok (.aload_n 0, 1) := by decide +kernel
theorem dX3_execute_419 : decode cX3_execute 419 = .ok (.iload_n 1, 1) := by decide +kernel
theorem dX3_execute_420 : decode cX3_execute 420 = .ok (.invokevirtual 87, 3) := by decide +kernel
theorem dX3_execute_423 : decode cX3_execute 423 = .ok (.istore 4, 2) := by decide +kernel
theorem dX3_execute_425 : decode cX3_execute 425 = .ok (.aload_n 0, 1) := by decide +kernel
theorem dX3_execute_426 : decode cX3_execute 426 = .ok (.iload_n 1, 1) := by decide +kernel
theorem dX3_execute_427 : decode cX3_execute 427 = .ok (.iload_n 2, 1) := by decide +kernel
theorem dX3_execute_428 : decode cX3_execute 428 = .ok (.iload 4, 2) := by decide +kernel
theorem dX3_execute_430 : decode cX3_execute 430 = .ok (.iload_n 3, 1) := by decide +kernel
theorem dX3_execute_431 : decode cX3_execute 431 = .ok (.invokestatic 107, 3) := by decide +kernel
theorem dX3_execute_434 : decode cX3_execute 434 = .ok (.invokevirtual 97, 3) := by decide +kernel
theorem dX3_execute_437 : decode cX3_execute 437 = .ok (.goto 257, 3) := by decide +kernel
theorem dX3_execute_440 : decode cX3_execute 440 = .ok (.aload_n 0, 1) := by decide +kernel
theorem dX3_execute_441 : decode cX3_execute 441 = .ok (.iload_n 1, 1) := by decide +kernel
theorem dX3_execute_442 : decode cX3_execute 442 = .ok (.aload_n 0, 1) := by decide +kernel
theorem dX3_execute_443 : decode cX3_execute 443 = .ok (.iload_n 1, 1) := by decide +kernel
theorem dX3_execute_444 : decode cX3_execute 444 = .ok (.invokevirtual 87, 3) := by decide +kernel
theorem dX3_execute_447 : decode cX3_execute 447 = .ok (.ifCond .ne 7, 3) := by decide +kernel
theorem dX3_execute_450 : decode cX3_execute 450 = .ok (.iconst 1, 1) := by decide +kernel
theorem dX3_execute_451 : decode cX3_execute 451 = .ok (.goto 4, 3) := by decide +kernel
theorem dX3_execute_454 : decode cX3_execute 454 = .ok (.iconst 0, 1) := by decide +kernel
theorem dX3_execute_455 : decode cX3_execute 455 = .ok (.invokevirtual 97, 3) := by decide +kernel
theorem dX3_execute_458 : decode cX3_execute 458 = .ok (.goto 236, 3) := by decide +kernel
theorem dX3_execute_461 : decode cX3_execute 461 = .ok (.aload_n 0, 1) := by decide +kernel
theorem dX3_execute_462 : decode cX3_execute 462 = .ok (.iload_n 1, 1) := by decide +kernel
theorem dX3_execute_463 : decode cX3_execute 463 = .ok (.invokevirtual 111, 3) := by decide +kernel
theorem dX3_execute_466 : decode cX3_execute 466 = .ok (.goto 228, 3) := by decide +kernel
theorem dX3_execute_469 : decode cX3_execute 469 = .ok (.aload_n 0, 1) := by decide +kernel
theorem dX3_execute_470 : decode cX3_execute 470 = .ok (.iload_n 1, 1) := by decide +kernel
theorem dX3_execute_471 : decode cX3_execute 471 = .ok (.invokevirtual 114, 3) := by decide +kernel
theorem dX3_execute_474 : decode cX3_execute 474 = .ok (.goto 220, 3) := by decide +kernel
theorem dX3_execute_477 : decode cX3_execute 477 = .ok (.aload_n 0, 1) := by decide +kernel
theorem dX3_execute_478 : decode cX3_execute 478 = .ok (.iload_n 1, 1) := by decide +kernel
theorem dX3_execute_479 : decode cX3_execute 479 = .ok (.invokevirtual 87, 3) := by decide +kernel
theorem dX3_execute_482 : decode cX3_execute 482 = .ok (.pop, 1) := by decide +kernel
theorem dX3_execute_483 : decode cX3_execute 483 = .ok (.goto 211, 3) := by decide +kernel
theorem dX3_execute_486 : decode cX3_execute 486 = .ok (.aload_n 0, 1) := by decide +kernel
theorem dX3_execute_487 : decode cX3_execute 487 = .ok (.iload_n 1, 1) := by decide +kernel
theorem dX3_execute_488 : decode cX3_execute 488 = .ok (.iconst 2, 1) := by decide +kernel
theorem dX3_execute_489 : decode cX3_execute 489 = .ok (.iconst 0, 1) := by decide +kernel
theorem dX3_execute_490 : decode cX3_execute 490 = .ok (.invokevirtual 80, 3) := by decide +kernel
theorem dX3_execute_493 : decode cX3_execute 493 = .ok (.goto 201, 3) := by decide +kernel
theorem dX3_execute_496 : decode cX3_execute 496 = .ok (.aload_n 0, 1) := by decide +kernel
theorem dX3_execute_497 : decode cX3_execute 497 = .ok (.iload_n 1, 1) := by decide +kernel
theorem dX3_execute_498 : decode cX3_execute 498 = .ok (.iconst 2, 1) := by decide +kernel
theorem dX3_execute_499 : decode cX3_execute 499 = .ok (.iconst 1, 1) := by decide +kernel
theorem dX3_execute_500 : decode cX3_execute 500 = .ok (.invokevirtual 80, 3) := by decide +kernel
theorem dX3_execute_503 : decode cX3_execute 503 = .ok (.goto 191, 3) := by decide +kernel
theorem dX3_execute_506 : decode cX3_execute 506 = .ok (.aload_n 0, 1) := by decide +kernel
theorem dX3_execute_507 : decode cX3_execute 507 = .ok (.iload_n 1, 1) := by decide +kernel
theorem dX3_execute_508 : decode cX3_execute 508 = .ok (.iconst 2, 1) := by decide +kernel
theorem dX3_execute_509 : decode cX3_execute 509 = .ok (.iconst 2, 1) := by decide +kernel
theorem dX3_execute_510 : decode cX3_execute 510 = .ok (.invokevirtual 80, 3) := by decide +kernel
theorem dX3_execute_513 : decode cX3_execute 513 = .ok (.goto 181, 3) := by decide +kernel
theorem dX3_execute_516 : decode cX3_execute 516 = .ok (.aload_n 0, 1) := by decide +kernel
theorem dX3_execute_517 : decode cX3_execute 517 = .ok (.iload_n 1, 1) := by decide +kernel
theorem dX3_execute_518 : decode cX3_execute 518 = .ok (.iconst 2, 1) := by decide +kernel
theorem dX3_execute_519 : decode cX3_execute 519 = .ok (.iconst 3, 1) := by decide +kernel
theorem dX3_execute_520 : decode cX3_execute 520 = .ok (.invokevirtual 80, 3) := by decide +kernel
theorem dX3_execute_523 : decode cX3_execute 523 = .ok (.goto 171, 3) := by decide +kernel
theorem dX3_execute_526 : decode cX3_execute 526 = .ok (.aload_n 0, 1) := by decide +kernel
theorem dX3_execute_527 : decode cX3_execute 527 = .ok (.iload_n 1, 1) := by decide +kernel
theorem dX3_execute_528 : decode cX3_execute 528 = .ok (.iconst 2, 1) := by decide +kernel
theorem dX3_execute_529 : decode cX3_execute 529 = .ok (.aload_n 0, 1) := by decide +kernel
theorem dX3_execute_530 : decode cX3_execute 530 = .ok (.iload_n 1, 1) := by decide +kernel
theorem dX3_execute_531 : decode cX3_execute 531 = .ok (.invokevirtual 87, 3) := by decide +kernel
theorem dX3_execute_534 : decode cX3_execute 534 = .ok (.ifCond .ne 7, 3) := by decide +kernel
theorem dX3_execute_537 : decode cX3_execute 537 = .ok (.iconst 0, 1) := by decide +kernel
theorem dX3_execute_538 : decode cX3_execute 538 = .ok (.goto 4, 3) := by decide +kernel
theorem dX3_execute_541 : decode cX3_execute 541 = .ok (.iconst 2, 1) := by decide +kernel
theorem dX3_execute_542 : decode cX3_execute 542 = .ok (.invokevirtual 80, 3) := by decide +kernel
theorem dX3_execute_545 : decode cX3_execute 545 = .ok (.goto 149, 3) := by decide +kernel
theorem dX3_execute_548 : decode cX3_execute 548 = .ok (.aload_n 0, 1) := by decide +kernel
theorem dX3_execute_549 : decode cX3_execute 549 = .ok (.iload_n 1, 1) := by decide +kernel
theorem dX3_execute_550 : decode cX3_execute 550 = .ok (.iconst 2, 1) := by decide +kernel
theorem dX3_execute_551 : decode cX3_execute 551 = .ok (.aload_n 0, 1) := by decide +kernel
theorem dX3_execute_552 : decode cX3_execute 552 = .ok (.iload_n 1, 1) := by decide +kernel
theorem dX3_execute_553 : decode cX3_execute 553 = .ok (.invokevirtual 87, 3) := by decide +kernel
theorem dX3_execute_556 : decode cX3_execute 556 = .ok (.ifCond .ne 7, 3) := by decide +kernel
theorem dX3_execute_559 : decode cX3_execute 559 = .ok (.iconst 1, 1) := by decide +kernel
theorem dX3_execute_560 : decode cX3_execute 560 = .ok (.goto 4, 3) := by decide +kernel
theorem dX3_execute_563 : decode cX3_execute 563 = .ok (.iconst 3, 1) := by decide +kernel
theorem dX3_execute_564 : decode cX3_execute 564 = .ok (.invokevirtual 80, 3) := by decide +kernel
theorem dX3_execute_567 : decode cX3_execute 567 = .ok (.goto 127, 3) := by decide +kernel
theorem dX3_execute_570 : decode cX3_execute 570 = .ok (.aload_n 0, 1) := by decide +kernel
theorem dX3_execute_571 : decode cX3_execute 571 = .ok (.iload_n 1, 1) := by decide +kernel
theorem dX3_execute_572 : decode cX3_execute 572 = .ok (.iconst 3, 1) := by decide +kernel
theorem dX3_execute_573 : decode cX3_execute 573 = .ok (.invokevirtual 93, 3) := by decide +kernel
theorem dX3_execute_576 : decode cX3_execute 576 = .ok (.goto 118, 3) := by decide +kernel
theorem dX3_execute_579 : decode cX3_execute 579 = .ok (.aload_n 0, 1) := by decide +kernel
theorem dX3_execute_580 : decode cX3_execute 580 = .ok (.iload_n 1, 1) := by decide +kernel
theorem dX3_execute_581 : decode cX3_execute 581 = .ok (.iconst 1, 1) := by decide +kernel
theorem dX3_execute_582 : decode cX3_execute 582 = .ok (.invokevirtual 93, 3) := by decide +kernel
theorem dX3_execute_585 : decode cX3_execute 585 = .ok (.goto 109, 3) := by decide +kernel
theorem dX3_execute_588 : decode cX3_execute 588 = .ok (.aload_n 0, 1) := by decide +kernel
theorem dX3_execute_589 : decode cX3_execute 589 = .ok (.iload_n 1, 1) := by decide +kernel
theorem dX3_execute_590 : decode cX3_execute 590 = .ok (.iconst 2, 1) := by decide +kernel
theorem dX3_execute_591 : decode cX3_execute 591 = .ok (.invokevirtual 93, 3) := by decide +kernel
theorem dX3_execute_594 : decode cX3_execute 594 = .ok (.goto 100, 3) := by decide +kernel
theorem dX3_execute_597 : decode cX3_execute 597 = .ok (.aload_n 0, 1) := by decide +kernel
theorem dX3_execute_598 : decode cX3_execute 598 = .ok (.iload_n 1, 1) := by decide +kernel
theorem dX3_execute_599 : decode cX3_execute 599 = .ok (.invokevirtual 100, 3) := by decide +kernel
theorem dX3_execute_602 : decode cX3_execute 602 = .ok (.goto 92, 3) := by decide +kernel
theorem dX3_execute_605 : decode cX3_execute 605 = .ok (.aload_n 0, 1) := by decide +kernel
theorem dX3_execute_606 : decode cX3_execute 606 = .ok (.iload_n 1, 1) := by decide +kernel
theorem dX3_execute_607 : decode cX3_execute 607 = .ok (.invokevirtual 117, 3) := by decide +kernel
theorem dX3_execute_610 : decode cX3_execute 610 = .ok (.goto 84, 3) := by decide +kernel
theorem dX3_execute_613 : decode cX3_execute 613 = .ok (.aload_n 0, 1) := by decide +kernel
theorem dX3_execute_614 : decode cX3_execute 614 = .ok (.iload_n 1, 1) := by decide +kernel
theorem dX3_execute_615 : decode cX3_execute 615 = .ok (.invokevirtual 120, 3) := by decide +kernel
theorem dX3_execute_618 : decode cX3_execute 618 = .ok (.goto 76, 3) := by decide +kernel
theorem dX3_execute_621 : decode cX3_execute 621 = .ok (.aload_n 0, 1) := by decide +kernel
theorem dX3_execute_622 : decode cX3_execute 622 = .ok (.aload_n 0, 1) := by decide +kernel
theorem dX3_execute_623 : decode cX3_execute 623 = .ok (.iload_n 1, 1) := by decide +kernel
theorem dX3_execute_624 : decode cX3_execute 624 = .ok (.invokevirtual 87, 3) := by decide +kernel
theorem dX3_execute_627 : decode cX3_execute 627 = .ok (.invokevirtual 123, 3) := by decide +kernel
theorem dX3_execute_630 : decode cX3_execute 630 = .ok (.goto 64, 3) := by decide +kernel
theorem dX3_execute_633 : decode cX3_execute 633 = .ok (.aload_n 0, 1) := by decide +kernel
theorem dX3_execute_634 : decode cX3_execute 634 = .ok (.iload_n 1, 1) := by decide +kernel
theorem dX3_execute_635 : decode cX3_execute 635 = .ok (.invokevirtual 126, 3) := by decide +kernel
theorem dX3_execute_638 : decode cX3_execute 638 = .ok (.goto 56, 3) := by decide +kernel
theorem dX3_execute_641 : decode cX3_execute 641 = .ok (.aload_n 0, 1) := by decide +kernel
theorem dX3_execute_642 : decode cX3_execute 642 = .ok (.iload_n 1, 1) := by decide +kernel
theorem dX3_execute_643 : decode cX3_execute 643 = .ok (.iconst 4, 1) := by decide +kernel
theorem dX3_execute_644 : decode cX3_execute 644 = .ok (.aload_n 0, 1) := by decide +kernel
theorem dX3_execute_645 : decode cX3_execute 645 = .ok (.iload_n 1, 1) := by decide +kernel
theorem dX3_execute_646 : decode cX3_execute 646 = .ok (.invokevirtual 87, 3) := by decide +kernel
theorem dX3_execute_649 : decode cX3_execute 649 = .ok (.bipush 9, 2) := by decide +kernel
theorem dX3_execute_651 : decode cX3_execute 651 = .ok (.invokestatic 90, 3) := by decide +kernel
theorem dX3_execute_654 : decode cX3_execute 654 = .ok (.invokevirtual 80, 3) := by decide +kernel
theorem dX3_execute_657 : decode cX3_execute 657 = .ok (.goto 37, 3) := by decide +kernel
theorem dX3_execute_660 : decode cX3_execute 660 = .ok (.aload_n 0, 1) := by decide +kernel
theorem dX3_execute_661 : decode cX3_execute 661 = .ok (.iload_n 1, 1) := by decide +kernel
theorem dX3_execute_662 : decode cX3_execute 662 = .ok (.invokevirtual 129, 3) := by decide +kernel
theorem dX3_execute_665 : decode cX3_execute 665 = .ok (.goto 29, 3) := by decide +kernel
theorem dX3_execute_668 : decode cX3_execute 668 = .ok (.aload_n 0, 1) := by decide +kernel
theorem dX3_execute_669 : decode cX3_execute 669 = .ok (.iload_n 1, 1) := by decide +kernel
theorem dX3_execute_670 : decode cX3_execute 670 = .ok (.invokevirtual 132, 3) := by decide +kernel
theorem dX3_execute_673 : decode cX3_execute 673 = .ok (.goto 21, 3) := by decide +kernel
theorem dX3_execute_676 : decode cX3_execute 676 = .ok (.aload_n 0, 1) := by decide +kernel
theorem dX3_execute_677 : decode cX3_execute 677 = .ok (.iload_n 1, 1) := by decide +kernel
theorem dX3_execute_678 : decode cX3_execute 678 = .ok (.invokevirtual 135, 3) := by decide +kernel
theorem dX3_execute_681 : decode cX3_execute 681 = .ok (.goto 13, 3) := by decide +kernel
theorem dX3_execute_684 : decode cX3_execute 684 = .ok (.aload_n 0, 1) := by decide +kernel
theorem dX3_execute_685 : decode cX3_execute 685 = .ok (.iload_n 1, 1) := by decide +kernel
theorem dX3_execute_686 : decode cX3_execute 686 = .ok (.iconst 3, 1) := by decide +kernel
theorem dX3_execute_687 : decode cX3_execute 687 = .ok (.iconst 1, 1) := by decide +kernel
theorem dX3_execute_688 : decode cX3_execute 688 = .ok (.invokevirtual 80, 3) := by decide +kernel
theorem dX3_execute_691 : decode cX3_execute 691 = .ok (.goto 3, 3) := by decide +kernel
theorem dX3_execute_694 : decode cX3_execute 694 = .ok (.return_, 1) := by decide +kernel
theorem dX3_takeTurn_0 : decode cX3_takeTurn 0 = .ok (.aload_n 0, 1) := by decide +kernel
theorem dX3_takeTurn_1 : decode cX3_takeTurn 1 = .ok (.iload_n 1, 1) := by decide +kernel
theorem dX3_takeTurn_2 : decode cX3_takeTurn 2 = .ok (.iconst 3, 1) := by decide +kernel
theorem dX3_takeTurn_3 : decode cX3_takeTurn 3 = .ok (.invokevirtual 69, 3) := by decide +kernel
theorem dX3_takeTurn_6 : decode cX3_takeTurn 6 = .ok (.ifCond .eq 4, 3) := by decide +kernel
theorem dX3_takeTurn_9 : decode cX3_takeTurn 9 = .ok (.return_, 1) := by decide +kernel
theorem dX3_takeTurn_10 : decode cX3_takeTurn 10 = .ok (.aload_n 0, 1) := by decide +kernel
theorem dX3_takeTurn_11 : decode cX3_takeTurn 11 = .ok (.iload_n 1, 1) := by decide +kernel
theorem dX3_takeTurn_12 : decode cX3_takeTurn 12 = .ok (.iconst 4, 1) := by decide +kernel
theorem dX3_takeTurn_13 : decode cX3_takeTurn 13 = .ok (.invokevirtual 69, 3) := by decide +kernel
theorem dX3_takeTurn_16 : decode cX3_takeTurn 16 = .ok (.ifCond .le 18, 3) := by decide +kernel
theorem dX3_takeTurn_19 : decode cX3_takeTurn 19 = .ok (.aload_n 0, 1) := by decide +kernel
theorem dX3_takeTurn_20 : decode cX3_takeTurn 20 = .ok (.iload_n 1, 1) := by decide +kernel
theorem dX3_takeTurn_21 : decode cX3_takeTurn 21 = .ok (.iconst 4, 1) := by decide +kernel
theorem dX3_takeTurn_22 : decode cX3_takeTurn 22 = .ok (.aload_n 0, 1) := by decide +kernel
theorem dX3_takeTurn_23 : decode cX3_takeTurn 23 = .ok (.iload_n 1, 1) := by decide +kernel
theorem dX3_takeTurn_24 : decode cX3_takeTurn 24 = .ok (.iconst 4, 1) := by decide +kernel
theorem dX3_takeTurn_25 : decode cX3_takeTurn 25 = .ok (.invokevirtual 69, 3) := by decide +kernel
theorem dX3_takeTurn_28 : decode cX3_takeTurn 28 = .ok (.iconst 1, 1) := by decide +kernel
theorem dX3_takeTurn_29 : decode cX3_takeTurn 29 = .ok (.isub, 1) := by decide +kernel
theorem dX3_takeTurn_30 : decode cX3_takeTurn 30 = .ok (.invokevirtual 80, 3) := by decide +kernel
theorem dX3_takeTurn_33 : decode cX3_takeTurn 33 = .ok (.return_, 1) := by decide +kernel
theorem dX3_takeTurn_34 : decode cX3_takeTurn 34 = .ok (.aload_n 0, 1) := by decide +kernel
theorem dX3_takeTurn_35 : decode cX3_takeTurn 35 = .ok (.iload_n 1, 1) := by decide +kernel
theorem dX3_takeTurn_36 : decode cX3_takeTurn 36 = .ok (.aload_n 0, 1) := by decide +kernel
theorem dX3_takeTurn_37 : decode cX3_takeTurn 37 = .ok (.getfield 7, 3) := by decide +kernel
theorem dX3_takeTurn_40 : decode cX3_takeTurn 40 = .ok (.bipush 72, 2) := by decide +kernel
theorem dX3_takeTurn_42 : decode cX3_takeTurn 42 = .ok (.bipush 12, 2) := by decide +kernel
theorem dX3_takeTurn_44 : decode cX3_takeTurn 44 = .ok (.aload_n 0, 1) := by decide +kernel
theorem dX3_takeTurn_45 : decode cX3_takeTurn 45 = .ok (.iload_n 1, 1) := by decide +kernel
theorem dX3_takeTurn_46 : decode cX3_takeTurn 46 = .ok (.iconst 1, 1) := by decide +kernel
theorem dX3_takeTurn_47 : decode cX3_takeTurn 47 = .ok (.invokevirtual 69, 3) := by decide +kernel
theorem dX3_takeTurn_50 : decode cX3_takeTurn 50 = .ok (.imul, 1) := by decide +kernel
theorem dX3_takeTurn_51 : decode cX3_takeTurn 51 = .ok (.iadd, 1) := by decide +kernel
theorem dX3_takeTurn_52 : decode cX3_takeTurn 52 = .ok (.aload_n 0, 1) := by decide +kernel
theorem dX3_takeTurn_53 : decode cX3_takeTurn 53 = .ok (.iload_n 1, 1) := by decide +kernel
theorem dX3_takeTurn_54 : decode cX3_takeTurn 54 = .ok (.iconst 0, 1) := by decide +kernel
theorem dX3_takeTurn_55 : decode cX3_takeTurn 55 = .ok (.invokevirtual 69, 3) := by decide +kernel
theorem dX3_takeTurn_58 : decode cX3_takeTurn 58 = .ok (.iadd, 1) := by decide +kernel
theorem dX3_takeTurn_59 : decode cX3_takeTurn 59 = .ok (.iaload, 1) := by decide +kernel
theorem dX3_takeTurn_60 : decode cX3_takeTurn 60 = .ok (.invokevirtual 138, 3) := by decide +kernel
theorem dX3_takeTurn_63 : decode cX3_takeTurn 63 = .ok (.aload_n 0, 1) := by decide +kernel
theorem dX3_takeTurn_64 : decode cX3_takeTurn 64 = .ok (.iload_n 1, 1) := by decide +kernel
theorem dX3_takeTurn_65 : decode cX3_takeTurn 65 = .ok (.iconst 3, 1) := by decide +kernel
theorem dX3_takeTurn_66 : decode cX3_takeTurn 66 = .ok (.invokevirtual 69, 3) := by decide +kernel
theorem dX3_takeTurn_69 : decode cX3_takeTurn 69 = .ok (.ifCond .ne 8, 3) := by decide +kernel
theorem dX3_takeTurn_72 : decode cX3_takeTurn 72 = .ok (.aload_n 0, 1) := by decide +kernel
theorem dX3_takeTurn_73 : decode cX3_takeTurn 73 = .ok (.iload_n 1, 1) := by decide +kernel
theorem dX3_takeTurn_74 : decode cX3_takeTurn 74 = .ok (.invokevirtual 100, 3) := by decide +kernel
theorem dX3_takeTurn_77 : decode cX3_takeTurn 77 = .ok (.return_, 1) := by decide +kernel
theorem dX3_step_0 : decode cX3_step 0 = .ok (.aload_n 0, 1) := by decide +kernel
theorem dX3_step_1 : decode cX3_step 1 = .ok (.getfield 7, 3) := by decide +kernel
theorem dX3_step_4 : decode cX3_step 4 = .ok (.sipush 145, 3) := by decide +kernel
theorem dX3_step_7 : decode cX3_step 7 = .ok (.iaload, 1) := by decide +kernel
theorem dX3_step_8 : decode cX3_step 8 = .ok (.istore_n 1, 1) := by decide +kernel
theorem dX3_step_9 : decode cX3_step 9 = .ok (.iconst 0, 1) := by decide +kernel
theorem dX3_step_10 : decode cX3_step 10 = .ok (.istore_n 2, 1) := by decide +kernel
theorem dX3_step_11 : decode cX3_step 11 = .ok (.iload_n 2, 1) := by decide +kernel
theorem dX3_step_12 : decode cX3_step 12 = .ok (.iload_n 1, 1) := by decide +kernel
theorem dX3_step_13 : decode cX3_step 13 = .ok (.if_icmp .ge 25, 3) := by decide +kernel
theorem dX3_step_16 : decode cX3_step 16 = .ok (.aload_n 0, 1) := by decide +kernel
theorem dX3_step_17 : decode cX3_step 17 = .ok (.getfield 38, 3) := by decide +kernel
theorem dX3_step_20 : decode cX3_step 20 = .ok (.iload_n 2, 1) := by decide +kernel
theorem dX3_step_21 : decode cX3_step 21 = .ok (.aload_n 0, 1) := by decide +kernel
theorem dX3_step_22 : decode cX3_step 22 = .ok (.getfield 7, 3) := by decide +kernel
theorem dX3_step_25 : decode cX3_step 25 = .ok (.sipush 146, 3) := by decide +kernel
theorem dX3_step_28 : decode cX3_step 28 = .ok (.iload_n 2, 1) := by decide +kernel
theorem dX3_step_29 : decode cX3_step 29 = .ok (.iadd, 1) := by decide +kernel
theorem dX3_step_30 : decode cX3_step 30 = .ok (.iaload, 1) := by decide +kernel
theorem dX3_step_31 : decode cX3_step 31 = .ok (.iastore, 1) := by decide +kernel
theorem dX3_step_32 : decode cX3_step 32 = .ok (.iinc 2 1, 3) := by decide +kernel
theorem dX3_step_35 : decode cX3_step 35 = .ok (.goto (-24), 3) := by decide +kernel
theorem dX3_step_38 : decode cX3_step 38 = .ok (.iconst 0, 1) := by decide +kernel
theorem dX3_step_39 : decode cX3_step 39 = .ok (.istore_n 2, 1) := by decide +kernel
theorem dX3_step_40 : decode cX3_step 40 = .ok (.iload_n 2, 1) := by decide +kernel
theorem dX3_step_41 : decode cX3_step 41 = .ok (.iload_n 1, 1) := by decide +kernel
theorem dX3_step_42 : decode cX3_step 42 = .ok (.if_icmp .ge 19, 3) := by decide +kernel
theorem dX3_step_45 : decode cX3_step 45 = .ok (.aload_n 0, 1) := by decide +kernel
theorem dX3_step_46 : decode cX3_step 46 = .ok (.aload_n 0, 1) := by decide +kernel
theorem dX3_step_47 : decode cX3_step 47 = .ok (.getfield 38, 3) := by decide +kernel
theorem dX3_step_50 : decode cX3_step 50 = .ok (.iload_n 2, 1) := by decide +kernel
theorem dX3_step_51 : decode cX3_step 51 = .ok (.iaload, 1) := by decide +kernel
theorem dX3_step_52 : decode cX3_step 52 = .ok (.invokevirtual 141, 3) := by decide +kernel
theorem dX3_step_55 : decode cX3_step 55 = .ok (.iinc 2 1, 3) := by decide +kernel
theorem dX3_step_58 : decode cX3_step 58 = .ok (.goto (-18), 3) := by decide +kernel
theorem dX3_step_61 : decode cX3_step 61 = .ok (.aload_n 0, 1) := by decide +kernel
theorem dX3_step_62 : decode cX3_step 62 = .ok (.getfield 7, 3) := by decide +kernel
theorem dX3_step_65 : decode cX3_step 65 = .ok (.sipush 144, 3) := by decide +kernel
theorem dX3_step_68 : decode cX3_step 68 = .ok (.dup2, 1) := by decide +kernel
theorem dX3_step_69 : decode cX3_step 69 = .ok (.iaload, 1) := by decide +kernel
theorem dX3_step_70 : decode cX3_step 70 = .ok (.iconst 1, 1) := by decide +kernel
theorem dX3_step_71 : decode cX3_step 71 = .ok (.iadd, 1) := by decide +kernel
theorem dX3_step_72 : decode cX3_step 72 = .ok (.iastore, 1) := by decide +kernel
theorem dX3_step_73 : decode cX3_step 73 = .ok (.return_, 1) := by decide +kernel
theorem dX3_isHalted_0 : decode cX3_isHalted 0 = .ok (.iconst 1, 1) := by decide +kernel
theorem dX3_isHalted_1 : decode cX3_isHalted 1 = .ok (.istore_n 1, 1) := by decide +kernel
theorem dX3_isHalted_2 : decode cX3_isHalted 2 = .ok (.iconst 0, 1) := by decide +kernel
theorem dX3_isHalted_3 : decode cX3_isHalted 3 = .ok (.istore_n 2, 1) := by decide +kernel
theorem dX3_isHalted_4 : decode cX3_isHalted 4 = .ok (.iload_n 2, 1) := by decide +kernel
theorem dX3_isHalted_5 : decode cX3_isHalted 5 = .ok (.aload_n 0, 1) := by decide +kernel
theorem dX3_isHalted_6 : decode cX3_isHalted 6 = .ok (.getfield 7, 3) := by decide +kernel
theorem dX3_isHalted_9 : decode cX3_isHalted 9 = .ok (.sipush 145, 3) := by decide +kernel
theorem dX3_isHalted_12 : decode cX3_isHalted 12 = .ok (.iaload, 1) := by decide +kernel
theorem dX3_isHalted_13 : decode cX3_isHalted 13 = .ok (.if_icmp .ge 28, 3) := by decide +kernel
theorem dX3_isHalted_16 : decode cX3_isHalted 16 = .ok (.iload_n 1, 1) := by decide +kernel
theorem dX3_isHalted_17 : decode cX3_isHalted 17 = .ok (.ifCond .eq 16, 3) := by decide +kernel
theorem dX3_isHalted_20 : decode cX3_isHalted 20 = .ok (.aload_n 0, 1) := by decide +kernel
theorem dX3_isHalted_21 : decode cX3_isHalted 21 = .ok (.iload_n 2, 1) := by decide +kernel
theorem dX3_isHalted_22 : decode cX3_isHalted 22 = .ok (.iconst 3, 1) := by decide +kernel
theorem dX3_isHalted_23 : decode cX3_isHalted 23 = .ok (.invokevirtual 69, 3) := by decide +kernel
theorem dX3_isHalted_26 : decode cX3_isHalted 26 = .ok (.ifCond .eq 7, 3) := by decide +kernel
theorem dX3_isHalted_29 : decode cX3_isHalted 29 = .ok (.iconst 1, 1) := by decide +kernel
theorem dX3_isHalted_30 : decode cX3_isHalted 30 = .ok (.goto 4, 3) := by decide +kernel
theorem dX3_isHalted_33 : decode cX3_isHalted 33 = .ok (.iconst 0, 1) := by decide +kernel
theorem dX3_isHalted_34 : decode cX3_isHalted 34 = .ok (.istore_n 1, 1) := by decide +kernel
theorem dX3_isHalted_35 : decode cX3_isHalted 35 = .ok (.iinc 2 1, 3) := by decide +kernel
theorem dX3_isHalted_38 : decode cX3_isHalted 38 = .ok (.goto (-34), 3) := by decide +kernel
theorem dX3_isHalted_41 : decode cX3_isHalted 41 = .ok (.iload_n 1, 1) := by decide +kernel
theorem dX3_isHalted_42 : decode cX3_isHalted 42 = .ok (.ireturn, 1) := by decide +kernel
theorem dX3_isAtBreakpoint_0 : decode cX3_isAtBreakpoint 0 = .ok (.iconst 0, 1) := by decide +kernel
theorem dX3_isAtBreakpoint_1 : decode cX3_isAtBreakpoint 1 = .ok (.istore_n 1, 1) := by decide +kernel
theorem dX3_isAtBreakpoint_2 : decode cX3_isAtBreakpoint 2 = .ok (.iconst 0, 1) := by decide +kernel
theorem dX3_isAtBreakpoint_3 : decode cX3_isAtBreakpoint 3 = .ok (.istore_n 2, 1) := by decide +kernel
theorem dX3_isAtBreakpoint_4 : decode cX3_isAtBreakpoint 4 = .ok (.iload_n 2, 1) := by decide +kernel
theorem dX3_isAtBreakpoint_5 : decode cX3_isAtBreakpoint 5 = .ok (.aload_n 0, 1) := by decide +kernel
theorem dX3_isAtBreakpoint_6 : decode cX3_isAtBreakpoint 6 = .ok (.getfield 7, 3) := by decide +kernel
theorem dX3_isAtBreakpoint_9 : decode cX3_isAtBreakpoint 9 = .ok (.sipush 145, 3) := by decide +kernel
theorem dX3_isAtBreakpoint_12 : decode cX3_isAtBreakpoint 12 = .ok (.iaload, 1) := by decide +kernel
theorem dX3_isAtBreakpoint_13 : decode cX3_isAtBreakpoint 13 = .ok (.if_icmp .ge 61, 3) := by decide +kernel
theorem dX3_isAtBreakpoint_16 : decode cX3_isAtBreakpoint 16 = .ok (.iload_n 1, 1) := by decide +kernel
theorem dX3_isAtBreakpoint_17 : decode cX3_isAtBreakpoint 17 = .ok (.ifCond .ne 45, 3) := by decide +kernel
theorem dX3_isAtBreakpoint_20 : decode cX3_isAtBreakpoint 20 = .ok (.aload_n 0, 1) := by decide +kernel
theorem dX3_isAtBreakpoint_21 : decode cX3_isAtBreakpoint 21 = .ok (.iload_n 2, 1) := by decide +kernel
theorem dX3_isAtBreakpoint_22 : decode cX3_isAtBreakpoint 22 = .ok (.iconst 3, 1) := by decide +kernel
theorem dX3_isAtBreakpoint_23 : decode cX3_isAtBreakpoint 23 = .ok (.invokevirtual 69, 3) := by decide +kernel
theorem dX3_isAtBreakpoint_26 : decode cX3_isAtBreakpoint 26 = .ok (.ifCond .ne 40, 3) := by decide +kernel
theorem dX3_isAtBreakpoint_29 : decode cX3_isAtBreakpoint 29 = .ok (.aload_n 0, 1) := by decide +kernel
theorem dX3_isAtBreakpoint_30 : decode cX3_isAtBreakpoint 30 = .ok (.iload_n 2, 1) := by decide +kernel
theorem dX3_isAtBreakpoint_31 : decode cX3_isAtBreakpoint 31 = .ok (.iconst 4, 1) := by decide +kernel
theorem dX3_isAtBreakpoint_32 : decode cX3_isAtBreakpoint 32 = .ok (.invokevirtual 69, 3) := by decide +kernel
theorem dX3_isAtBreakpoint_35 : decode cX3_isAtBreakpoint 35 = .ok (.ifCond .ne 31, 3) := by decide +kernel
theorem dX3_isAtBreakpoint_38 : decode cX3_isAtBreakpoint 38 = .ok (.aload_n 0, 1) := by decide +kernel
theorem dX3_isAtBreakpoint_39 : decode cX3_isAtBreakpoint 39 = .ok (.getfield 32, 3) := by decide +kernel
theorem dX3_isAtBreakpoint_42 : decode cX3_isAtBreakpoint 42 = .ok (.bipush 12, 2) := by decide +kernel
theorem dX3_isAtBreakpoint_44 : decode cX3_isAtBreakpoint 44 = .ok (.aload_n 0, 1) := by decide +kernel
theorem dX3_isAtBreakpoint_45 : decode cX3_isAtBreakpoint 45 = .ok (.iload_n 2, 1) := by decide +kernel
theorem dX3_isAtBreakpoint_46 : decode cX3_isAtBreakpoint 46 = .ok (.iconst 1, 1) := by decide +kernel
theorem dX3_isAtBreakpoint_47 : decode cX3_isAtBreakpoint 47 = .ok (.invokevirtual 69, 3) := by decide +kernel
theorem dX3_isAtBreakpoint_50 : decode cX3_isAtBreakpoint 50 = .ok (.imul, 1) := by decide +kernel
theorem dX3_isAtBreakpoint_51 : decode cX3_isAtBreakpoint 51 = .ok (.aload_n 0, 1) := by decide +kernel
theorem dX3_isAtBreakpoint_52 : decode cX3_isAtBreakpoint 52 = .ok (.iload_n 2, 1) := by decide +kernel
theorem dX3_isAtBreakpoint_53 : decode cX3_isAtBreakpoint 53 = .ok (.iconst 0, 1) := by decide +kernel
theorem dX3_isAtBreakpoint_54 : decode cX3_isAtBreakpoint 54 = .ok (.invokevirtual 69, 3) := by decide +kernel
theorem dX3_isAtBreakpoint_57 : decode cX3_isAtBreakpoint 57 = .ok (.iadd, 1) := by decide +kernel
theorem dX3_isAtBreakpoint_58 : decode cX3_isAtBreakpoint 58 = .ok (.baload, 1) := by decide +kernel
theorem dX3_isAtBreakpoint_59 : decode cX3_isAtBreakpoint 59 = .ok (.ifCond .eq 7, 3) := by decide +kernel
theorem dX3_isAtBreakpoint_62 : decode cX3_isAtBreakpoint 62 = .ok (.iconst 1, 1) := by decide +kernel
theorem dX3_isAtBreakpoint_63 : decode cX3_isAtBreakpoint 63 = .ok (.goto 4, 3) := by decide +kernel
theorem dX3_isAtBreakpoint_66 : decode cX3_isAtBreakpoint 66 = .ok (.iconst 0, 1) := by decide +kernel
theorem dX3_isAtBreakpoint_67 : decode cX3_isAtBreakpoint 67 = .ok (.istore_n 1, 1) := by decide +kernel
theorem dX3_isAtBreakpoint_68 : decode cX3_isAtBreakpoint 68 = .ok (.iinc 2 1, 3) := by decide +kernel
theorem dX3_isAtBreakpoint_71 : decode cX3_isAtBreakpoint 71 = .ok (.goto (-67), 3) := by decide +kernel
theorem dX3_isAtBreakpoint_74 : decode cX3_isAtBreakpoint 74 = .ok (.iload_n 1, 1) := by decide +kernel
theorem dX3_isAtBreakpoint_75 : decode cX3_isAtBreakpoint 75 = .ok (.ireturn, 1) := by decide +kernel
theorem dX3_perform_0 : decode cX3_perform 0 = .ok (.iload_n 1, 1) := by decide +kernel
theorem dX3_perform_1 : decode cX3_perform 1 = .ok (.iconst 1, 1) := by decide +kernel
theorem dX3_perform_2 : decode cX3_perform 2 = .ok (.sipush 200, 3) := by decide +kernel
theorem dX3_perform_5 : decode cX3_perform 5 = .ok (.invokestatic 44, 3) := by decide +kernel
theorem dX3_perform_8 : decode cX3_perform 8 = .ok (.ifCond .ne 5, 3) := by decide +kernel
theorem dX3_perform_11 : decode cX3_perform 11 = .ok (.iconst (-1), 1) := by decide +kernel
theorem dX3_perform_12 : decode cX3_perform 12 = .ok (.ireturn, 1) := by decide +kernel
theorem dX3_perform_13 : decode cX3_perform 13 = .ok (.aload_n 0, 1) := by decide +kernel
theorem dX3_perform_14 : decode cX3_perform 14 = .ok (.invokevirtual 144, 3) := by decide +kernel
theorem dX3_perform_17 : decode cX3_perform 17 = .ok (.ifCond .eq 6, 3) := by decide +kernel
theorem dX3_perform_20 : decode cX3_perform 20 = .ok (.bipush (-2), 2) := by decide +kernel
theorem dX3_perform_22 : decode cX3_perform 22 = .ok (.ireturn, 1) := by decide +kernel
theorem dX3_perform_23 : decode cX3_perform 23 = .ok (.aload_n 0, 1) := by decide +kernel
theorem dX3_perform_24 : decode cX3_perform 24 = .ok (.invokevirtual 59, 3) := by decide +kernel
theorem dX3_perform_27 : decode cX3_perform 27 = .ok (.iconst 0, 1) := by decide +kernel
theorem dX3_perform_28 : decode cX3_perform 28 = .ok (.istore_n 3, 1) := by decide +kernel
theorem dX3_perform_29 : decode cX3_perform 29 = .ok (.iconst 1, 1) := by decide +kernel
theorem dX3_perform_30 : decode cX3_perform 30 = .ok (.istore 4, 2) := by decide +kernel
theorem dX3_perform_32 : decode cX3_perform 32 = .ok (.iload 4, 2) := by decide +kernel
theorem dX3_perform_34 : decode cX3_perform 34 = .ok (.ifCond .eq 43, 3) := by decide +kernel
theorem dX3_perform_37 : decode cX3_perform 37 = .ok (.aload_n 0, 1) := by decide +kernel
theorem dX3_perform_38 : decode cX3_perform 38 = .ok (.invokevirtual 148, 3) := by decide +kernel
theorem dX3_perform_41 : decode cX3_perform 41 = .ok (.iinc 3 1, 3) := by decide +kernel
theorem dX3_perform_44 : decode cX3_perform 44 = .ok (.iload_n 3, 1) := by decide +kernel
theorem dX3_perform_45 : decode cX3_perform 45 = .ok (.iload_n 1, 1) := by decide +kernel
theorem dX3_perform_46 : decode cX3_perform 46 = .ok (.if_icmp .ge 25, 3) := by decide +kernel
theorem dX3_perform_49 : decode cX3_perform 49 = .ok (.aload_n 0, 1) := by decide +kernel
theorem dX3_perform_50 : decode cX3_perform 50 = .ok (.invokevirtual 144, 3) := by decide +kernel
theorem dX3_perform_53 : decode cX3_perform 53 = .ok (.ifCond .ne 18, 3) := by decide +kernel
theorem dX3_perform_56 : decode cX3_perform 56 = .ok (.iload_n 2, 1) := by decide +kernel
theorem dX3_perform_57 : decode cX3_perform 57 = .ok (.ifCond .eq 10, 3) := by decide +kernel
theorem dX3_perform_60 : decode cX3_perform 60 = .ok (.aload_n 0, 1) := by decide +kernel
theorem dX3_perform_61 : decode cX3_perform 61 = .ok (.invokevirtual 151, 3) := by decide +kernel
theorem dX3_perform_64 : decode cX3_perform 64 = .ok (.ifCond .ne 7, 3) := by decide +kernel
theorem dX3_perform_67 : decode cX3_perform 67 = .ok (.iconst 1, 1) := by decide +kernel
theorem dX3_perform_68 : decode cX3_perform 68 = .ok (.goto 4, 3) := by decide +kernel
theorem dX3_perform_71 : decode cX3_perform 71 = .ok (.iconst 0, 1) := by decide +kernel
theorem dX3_perform_72 : decode cX3_perform 72 = .ok (.istore 4, 2) := by decide +kernel
theorem dX3_perform_74 : decode cX3_perform 74 = .ok (.goto (-42), 3) := by decide +kernel
theorem dX3_perform_77 : decode cX3_perform 77 = .ok (.aload_n 0, 1) := by decide +kernel
theorem dX3_perform_78 : decode cX3_perform 78 = .ok (.invokevirtual 62, 3) := by decide +kernel
theorem dX3_perform_81 : decode cX3_perform 81 = .ok (.iload_n 3, 1) := by decide +kernel
theorem dX3_perform_82 : decode cX3_perform 82 = .ok (.ireturn, 1) := by decide +kernel
theorem dX3_tick_0 : decode cX3_tick 0 = .ok (.aload_n 0, 1) := by decide +kernel
theorem dX3_tick_1 : decode cX3_tick 1 = .ok (.iload_n 1, 1) := by decide +kernel
theorem dX3_tick_2 : decode cX3_tick 2 = .ok (.iconst 0, 1) := by decide +kernel
theorem dX3_tick_3 : decode cX3_tick 3 = .ok (.invokevirtual 154, 3) := by decide +kernel
theorem dX3_tick_6 : decode cX3_tick 6 = .ok (.ireturn, 1) := by decide +kernel
theorem dX3_run_0 : decode cX3_run 0 = .ok (.aload_n 0, 1) := by decide +kernel
theorem dX3_run_1 : decode cX3_run 1 = .ok (.iload_n 1, 1) := by decide +kernel
theorem dX3_run_2 : decode cX3_run 2 = .ok (.iconst 1, 1) := by decide +kernel
theorem dX3_run_3 : decode cX3_run 3 = .ok (.invokevirtual 154, 3) := by decide +kernel
theorem dX3_run_6 : decode cX3_run 6 = .ok (.ireturn, 1) := by decide +kernel
theorem dX3_breakpoints_0 : decode cX3_breakpoints 0 = .ok (.iconst 0, 1) := by decide +kernel
theorem dX3_breakpoints_1 : decode cX3_breakpoints 1 = .ok (.istore_n 1, 1) := by decide +kernel
theorem dX3_breakpoints_2 : decode cX3_breakpoints 2 = .ok (.iconst 0, 1) := by decide +kernel
theorem dX3_breakpoints_3 : decode cX3_breakpoints 3 = .ok (.istore_n 2, 1) := by decide +kernel
theorem dX3_breakpoints_4 : decode cX3_breakpoints 4 = .ok (.iload_n 2, 1) := by decide +kernel
theorem dX3_breakpoints_5 : decode cX3_breakpoints 5 = .ok (.bipush 72, 2) := by decide +kernel
theorem dX3_breakpoints_7 : decode cX3_breakpoints 7 = .ok (.if_icmp .ge 26, 3) := by decide +kernel
theorem dX3_breakpoints_10 : decode cX3_breakpoints 10 = .ok (.iload_n 1, 1) := by decide +kernel
theorem dX3_breakpoints_11 : decode cX3_breakpoints 11 = .ok (.aload_n 0, 1) := by decide +kernel
theorem dX3_breakpoints_12 : decode cX3_breakpoints 12 = .ok (.getfield 32, 3) := by decide +kernel
theorem dX3_breakpoints_15 : decode cX3_breakpoints 15 = .ok (.iload_n 2, 1) := by decide +kernel
theorem dX3_breakpoints_16 : decode cX3_breakpoints 16 = .ok (.baload, 1) := by decide +kernel
theorem dX3_breakpoints_17 : decode cX3_breakpoints 17 = .ok (.ifCond .eq 7, 3) := by decide +kernel
theorem dX3_breakpoints_20 : decode cX3_breakpoints 20 = .ok (.iconst 1, 1) := by decide +kernel
theorem dX3_breakpoints_21 : decode cX3_breakpoints 21 = .ok (.goto 4, 3) := by decide +kernel
theorem dX3_breakpoints_24 : decode cX3_breakpoints 24 = .ok (.iconst 0, 1) := by decide +kernel
theorem dX3_breakpoints_25 : decode cX3_breakpoints 25 = .ok (.iadd, 1) := by decide +kernel
theorem dX3_breakpoints_26 : decode cX3_breakpoints 26 = .ok (.istore_n 1, 1) := by decide +kernel
theorem dX3_breakpoints_27 : decode cX3_breakpoints 27 = .ok (.iinc 2 1, 3) := by decide +kernel
theorem dX3_breakpoints_30 : decode cX3_breakpoints 30 = .ok (.goto (-26), 3) := by decide +kernel
theorem dX3_breakpoints_33 : decode cX3_breakpoints 33 = .ok (.iload_n 1, 1) := by decide +kernel
theorem dX3_breakpoints_34 : decode cX3_breakpoints 34 = .ok (.ireturn, 1) := by decide +kernel
theorem dX3_setBreakpoint_0 : decode cX3_setBreakpoint 0 = .ok (.iload_n 1, 1) := by decide +kernel
theorem dX3_setBreakpoint_1 : decode cX3_setBreakpoint 1 = .ok (.iload_n 2, 1) := by decide +kernel
theorem dX3_setBreakpoint_2 : decode cX3_setBreakpoint 2 = .ok (.invokestatic 65, 3) := by decide +kernel
theorem dX3_setBreakpoint_5 : decode cX3_setBreakpoint 5 = .ok (.ifCond .eq 12, 3) := by decide +kernel
theorem dX3_setBreakpoint_8 : decode cX3_setBreakpoint 8 = .ok (.iload_n 3, 1) := by decide +kernel
theorem dX3_setBreakpoint_9 : decode cX3_setBreakpoint 9 = .ok (.iconst 0, 1) := by decide +kernel
theorem dX3_setBreakpoint_10 : decode cX3_setBreakpoint 10 = .ok (.iconst 1, 1) := by decide +kernel
theorem dX3_setBreakpoint_11 : decode cX3_setBreakpoint 11 = .ok (.invokestatic 44, 3) := by decide +kernel
theorem dX3_setBreakpoint_14 : decode cX3_setBreakpoint 14 = .ok (.ifCond .ne 5, 3) := by decide +kernel
theorem dX3_setBreakpoint_17 : decode cX3_setBreakpoint 17 = .ok (.iconst (-1), 1) := by decide +kernel
theorem dX3_setBreakpoint_18 : decode cX3_setBreakpoint 18 = .ok (.ireturn, 1) := by decide +kernel
theorem dX3_setBreakpoint_19 : decode cX3_setBreakpoint 19 = .ok (.bipush 12, 2) := by decide +kernel
theorem dX3_setBreakpoint_21 : decode cX3_setBreakpoint 21 = .ok (.iload_n 2, 1) := by decide +kernel
theorem dX3_setBreakpoint_22 : decode cX3_setBreakpoint 22 = .ok (.imul, 1) := by decide +kernel
theorem dX3_setBreakpoint_23 : decode cX3_setBreakpoint 23 = .ok (.iload_n 1, 1) := by decide +kernel
theorem dX3_setBreakpoint_24 : decode cX3_setBreakpoint 24 = .ok (.iadd, 1) := by decide +kernel
theorem dX3_setBreakpoint_25 : decode cX3_setBreakpoint 25 = .ok (.istore 4, 2) := by decide +kernel
theorem dX3_setBreakpoint_27 : decode cX3_setBreakpoint 27 = .ok (.aload_n 0, 1) := by decide +kernel
theorem dX3_setBreakpoint_28 : decode cX3_setBreakpoint 28 = .ok (.getfield 32, 3) := by decide +kernel
theorem dX3_setBreakpoint_31 : decode cX3_setBreakpoint 31 = .ok (.iload 4, 2) := by decide +kernel
theorem dX3_setBreakpoint_33 : decode cX3_setBreakpoint 33 = .ok (.baload, 1) := by decide +kernel
theorem dX3_setBreakpoint_34 : decode cX3_setBreakpoint 34 = .ok (.iload_n 3, 1) := by decide +kernel
theorem dX3_setBreakpoint_35 : decode cX3_setBreakpoint 35 = .ok (.iconst 1, 1) := by decide +kernel
theorem dX3_setBreakpoint_36 : decode cX3_setBreakpoint 36 = .ok (.if_icmp .ne 7, 3) := by decide +kernel
theorem dX3_setBreakpoint_39 : decode cX3_setBreakpoint 39 = .ok (.iconst 1, 1) := by decide +kernel
theorem dX3_setBreakpoint_40 : decode cX3_setBreakpoint 40 = .ok (.goto 4, 3) := by decide +kernel
theorem dX3_setBreakpoint_43 : decode cX3_setBreakpoint 43 = .ok (.iconst 0, 1) := by decide +kernel
theorem dX3_setBreakpoint_44 : decode cX3_setBreakpoint 44 = .ok (.if_icmp .ne 6, 3) := by decide +kernel
theorem dX3_setBreakpoint_47 : decode cX3_setBreakpoint 47 = .ok (.bipush (-2), 2) := by decide +kernel
theorem dX3_setBreakpoint_49 : decode cX3_setBreakpoint 49 = .ok (.ireturn, 1) := by decide +kernel
theorem dX3_setBreakpoint_50 : decode cX3_setBreakpoint 50 = .ok (.aload_n 0, 1) := by decide +kernel
theorem dX3_setBreakpoint_51 : decode cX3_setBreakpoint 51 = .ok (.getfield 32, 3) := by decide +kernel
theorem dX3_setBreakpoint_54 : decode cX3_setBreakpoint 54 = .ok (.iload 4, 2) := by decide +kernel
theorem dX3_setBreakpoint_56 : decode cX3_setBreakpoint 56 = .ok (.iload_n 3, 1) := by decide +kernel
theorem dX3_setBreakpoint_57 : decode cX3_setBreakpoint 57 = .ok (.iconst 1, 1) := by decide +kernel
theorem dX3_setBreakpoint_58 : decode cX3_setBreakpoint 58 = .ok (.if_icmp .ne 7, 3) := by decide +kernel
theorem dX3_setBreakpoint_61 : decode cX3_setBreakpoint 61 = .ok (.iconst 1, 1) := by decide +kernel
theorem dX3_setBreakpoint_62 : decode cX3_setBreakpoint 62 = .ok (.goto 4, 3) := by decide +kernel
theorem dX3_setBreakpoint_65 : decode cX3_setBreakpoint 65 = .ok (.iconst 0, 1) := by decide +kernel
theorem dX3_setBreakpoint_66 : decode cX3_setBreakpoint 66 = .ok (.bastore, 1) := by decide +kernel
theorem dX3_setBreakpoint_67 : decode cX3_setBreakpoint 67 = .ok (.aload_n 0, 1) := by decide +kernel
theorem dX3_setBreakpoint_68 : decode cX3_setBreakpoint 68 = .ok (.invokevirtual 158, 3) := by decide +kernel
theorem dX3_setBreakpoint_71 : decode cX3_setBreakpoint 71 = .ok (.ireturn, 1) := by decide +kernel
theorem dX3_setAside_0 : decode cX3_setAside 0 = .ok (.iconst 0, 1) := by decide +kernel
theorem dX3_setAside_1 : decode cX3_setAside 1 = .ok (.istore_n 1, 1) := by decide +kernel
theorem dX3_setAside_2 : decode cX3_setAside 2 = .ok (.iload_n 1, 1) := by decide +kernel
theorem dX3_setAside_3 : decode cX3_setAside 3 = .ok (.sipush 289, 3) := by decide +kernel
theorem dX3_setAside_6 : decode cX3_setAside 6 = .ok (.if_icmp .ge 21, 3) := by decide +kernel
theorem dX3_setAside_9 : decode cX3_setAside 9 = .ok (.aload_n 0, 1) := by decide +kernel
theorem dX3_setAside_10 : decode cX3_setAside 10 = .ok (.getfield 16, 3) := by decide +kernel
theorem dX3_setAside_13 : decode cX3_setAside 13 = .ok (.iload_n 1, 1) := by decide +kernel
theorem dX3_setAside_14 : decode cX3_setAside 14 = .ok (.aload_n 0, 1) := by decide +kernel
theorem dX3_setAside_15 : decode cX3_setAside 15 = .ok (.getfield 7, 3) := by decide +kernel
theorem dX3_setAside_18 : decode cX3_setAside 18 = .ok (.iload_n 1, 1) := by decide +kernel
theorem dX3_setAside_19 : decode cX3_setAside 19 = .ok (.iaload, 1) := by decide +kernel
theorem dX3_setAside_20 : decode cX3_setAside 20 = .ok (.iastore, 1) := by decide +kernel
theorem dX3_setAside_21 : decode cX3_setAside 21 = .ok (.iinc 1 1, 3) := by decide +kernel
theorem dX3_setAside_24 : decode cX3_setAside 24 = .ok (.goto (-22), 3) := by decide +kernel
theorem dX3_setAside_27 : decode cX3_setAside 27 = .ok (.return_, 1) := by decide +kernel
theorem dX3_takeBack_0 : decode cX3_takeBack 0 = .ok (.iconst 0, 1) := by decide +kernel
theorem dX3_takeBack_1 : decode cX3_takeBack 1 = .ok (.istore_n 1, 1) := by decide +kernel
theorem dX3_takeBack_2 : decode cX3_takeBack 2 = .ok (.iload_n 1, 1) := by decide +kernel
theorem dX3_takeBack_3 : decode cX3_takeBack 3 = .ok (.sipush 289, 3) := by decide +kernel
theorem dX3_takeBack_6 : decode cX3_takeBack 6 = .ok (.if_icmp .ge 21, 3) := by decide +kernel
theorem dX3_takeBack_9 : decode cX3_takeBack 9 = .ok (.aload_n 0, 1) := by decide +kernel
theorem dX3_takeBack_10 : decode cX3_takeBack 10 = .ok (.getfield 7, 3) := by decide +kernel
theorem dX3_takeBack_13 : decode cX3_takeBack 13 = .ok (.iload_n 1, 1) := by decide +kernel
theorem dX3_takeBack_14 : decode cX3_takeBack 14 = .ok (.aload_n 0, 1) := by decide +kernel
theorem dX3_takeBack_15 : decode cX3_takeBack 15 = .ok (.getfield 16, 3) := by decide +kernel
theorem dX3_takeBack_18 : decode cX3_takeBack 18 = .ok (.iload_n 1, 1) := by decide +kernel
theorem dX3_takeBack_19 : decode cX3_takeBack 19 = .ok (.iaload, 1) := by decide +kernel
theorem dX3_takeBack_20 : decode cX3_takeBack 20 = .ok (.iastore, 1) := by decide +kernel
theorem dX3_takeBack_21 : decode cX3_takeBack 21 = .ok (.iinc 1 1, 3) := by decide +kernel
theorem dX3_takeBack_24 : decode cX3_takeBack 24 = .ok (.goto (-22), 3) := by decide +kernel
theorem dX3_takeBack_27 : decode cX3_takeBack 27 = .ok (.return_, 1) := by decide +kernel
theorem dX3_halts_0 : decode cX3_halts 0 = .ok (.aload_n 0, 1) := by decide +kernel
theorem dX3_halts_1 : decode cX3_halts 1 = .ok (.invokevirtual 161, 3) := by decide +kernel
theorem dX3_halts_4 : decode cX3_halts 4 = .ok (.iconst 0, 1) := by decide +kernel
theorem dX3_halts_5 : decode cX3_halts 5 = .ok (.istore_n 2, 1) := by decide +kernel
theorem dX3_halts_6 : decode cX3_halts 6 = .ok (.iload_n 2, 1) := by decide +kernel
theorem dX3_halts_7 : decode cX3_halts 7 = .ok (.iload_n 1, 1) := by decide +kernel
theorem dX3_halts_8 : decode cX3_halts 8 = .ok (.if_icmp .ge 20, 3) := by decide +kernel
theorem dX3_halts_11 : decode cX3_halts 11 = .ok (.aload_n 0, 1) := by decide +kernel
theorem dX3_halts_12 : decode cX3_halts 12 = .ok (.invokevirtual 144, 3) := by decide +kernel
theorem dX3_halts_15 : decode cX3_halts 15 = .ok (.ifCond .ne 13, 3) := by decide +kernel
theorem dX3_halts_18 : decode cX3_halts 18 = .ok (.aload_n 0, 1) := by decide +kernel
theorem dX3_halts_19 : decode cX3_halts 19 = .ok (.invokevirtual 148, 3) := by decide +kernel
theorem dX3_halts_22 : decode cX3_halts 22 = .ok (.iinc 2 1, 3) := by decide +kernel
theorem dX3_halts_25 : decode cX3_halts 25 = .ok (.goto (-19), 3) := by decide +kernel
theorem dX3_halts_28 : decode cX3_halts 28 = .ok (.aload_n 0, 1) := by decide +kernel
theorem dX3_halts_29 : decode cX3_halts 29 = .ok (.invokevirtual 144, 3) := by decide +kernel
theorem dX3_halts_32 : decode cX3_halts 32 = .ok (.ifCond .eq 7, 3) := by decide +kernel
theorem dX3_halts_35 : decode cX3_halts 35 = .ok (.iload_n 2, 1) := by decide +kernel
theorem dX3_halts_36 : decode cX3_halts 36 = .ok (.goto 5, 3) := by decide +kernel
theorem dX3_halts_39 : decode cX3_halts 39 = .ok (.bipush (-9), 2) := by decide +kernel
theorem dX3_halts_41 : decode cX3_halts 41 = .ok (.istore_n 3, 1) := by decide +kernel
theorem dX3_halts_42 : decode cX3_halts 42 = .ok (.aload_n 0, 1) := by decide +kernel
theorem dX3_halts_43 : decode cX3_halts 43 = .ok (.invokevirtual 164, 3) := by decide +kernel
theorem dX3_halts_46 : decode cX3_halts 46 = .ok (.iload_n 3, 1) := by decide +kernel
theorem dX3_halts_47 : decode cX3_halts 47 = .ok (.ireturn, 1) := by decide +kernel
theorem dX3_ticksToHalt_0 : decode cX3_ticksToHalt 0 = .ok (.iload_n 1, 1) := by decide +kernel
theorem dX3_ticksToHalt_1 : decode cX3_ticksToHalt 1 = .ok (.iconst 1, 1) := by decide +kernel
theorem dX3_ticksToHalt_2 : decode cX3_ticksToHalt 2 = .ok (.sipush 200, 3) := by decide +kernel
theorem dX3_ticksToHalt_5 : decode cX3_ticksToHalt 5 = .ok (.invokestatic 44, 3) := by decide +kernel
theorem dX3_ticksToHalt_8 : decode cX3_ticksToHalt 8 = .ok (.ifCond .eq 11, 3) := by decide +kernel
theorem dX3_ticksToHalt_11 : decode cX3_ticksToHalt 11 = .ok (.aload_n 0, 1) := by decide +kernel
theorem dX3_ticksToHalt_12 : decode cX3_ticksToHalt 12 = .ok (.iload_n 1, 1) := by decide +kernel
theorem dX3_ticksToHalt_13 : decode cX3_ticksToHalt 13 = .ok (.invokevirtual 167, 3) := by decide +kernel
theorem dX3_ticksToHalt_16 : decode cX3_ticksToHalt 16 = .ok (.goto 4, 3) := by decide +kernel
theorem dX3_ticksToHalt_19 : decode cX3_ticksToHalt 19 = .ok (.iconst (-1), 1) := by decide +kernel
theorem dX3_ticksToHalt_20 : decode cX3_ticksToHalt 20 = .ok (.ireturn, 1) := by decide +kernel
theorem dX3_isSameAsFirst_0 : decode cX3_isSameAsFirst 0 = .ok (.iconst 1, 1) := by decide +kernel
theorem dX3_isSameAsFirst_1 : decode cX3_isSameAsFirst 1 = .ok (.istore_n 1, 1) := by decide +kernel
theorem dX3_isSameAsFirst_2 : decode cX3_isSameAsFirst 2 = .ok (.bipush 72, 2) := by decide +kernel
theorem dX3_isSameAsFirst_4 : decode cX3_isSameAsFirst 4 = .ok (.istore_n 2, 1) := by decide +kernel
theorem dX3_isSameAsFirst_5 : decode cX3_isSameAsFirst 5 = .ok (.iload_n 2, 1) := by decide +kernel
theorem dX3_isSameAsFirst_6 : decode cX3_isSameAsFirst 6 = .ok (.sipush 267, 3) := by decide +kernel
theorem dX3_isSameAsFirst_9 : decode cX3_isSameAsFirst 9 = .ok (.if_icmp .ge 41, 3) := by decide +kernel
theorem dX3_isSameAsFirst_12 : decode cX3_isSameAsFirst 12 = .ok (.iload_n 1, 1) := by decide +kernel
theorem dX3_isSameAsFirst_13 : decode cX3_isSameAsFirst 13 = .ok (.ifCond .eq 37, 3) := by decide +kernel
theorem dX3_isSameAsFirst_16 : decode cX3_isSameAsFirst 16 = .ok (.iload_n 2, 1) := by decide +kernel
theorem dX3_isSameAsFirst_17 : decode cX3_isSameAsFirst 17 = .ok (.sipush 144, 3) := by decide +kernel
theorem dX3_isSameAsFirst_20 : decode cX3_isSameAsFirst 20 = .ok (.if_icmp .eq 18, 3) := by decide +kernel
theorem dX3_isSameAsFirst_23 : decode cX3_isSameAsFirst 23 = .ok (.aload_n 0, 1) := by decide +kernel
theorem dX3_isSameAsFirst_24 : decode cX3_isSameAsFirst 24 = .ok (.getfield 7, 3) := by decide +kernel
theorem dX3_isSameAsFirst_27 : decode cX3_isSameAsFirst 27 = .ok (.iload_n 2, 1) := by decide +kernel
theorem dX3_isSameAsFirst_28 : decode cX3_isSameAsFirst 28 = .ok (.iaload, 1) := by decide +kernel
theorem dX3_isSameAsFirst_29 : decode cX3_isSameAsFirst 29 = .ok (.aload_n 0, 1) := by decide +kernel
theorem dX3_isSameAsFirst_30 : decode cX3_isSameAsFirst 30 = .ok (.getfield 19, 3) := by decide +kernel
theorem dX3_isSameAsFirst_33 : decode cX3_isSameAsFirst 33 = .ok (.iload_n 2, 1) := by decide +kernel
theorem dX3_isSameAsFirst_34 : decode cX3_isSameAsFirst 34 = .ok (.iaload, 1) := by decide +kernel
theorem dX3_isSameAsFirst_35 : decode cX3_isSameAsFirst 35 = .ok (.if_icmp .ne 7, 3) := by decide +kernel
theorem dX3_isSameAsFirst_38 : decode cX3_isSameAsFirst 38 = .ok (.iconst 1, 1) := by decide +kernel
theorem dX3_isSameAsFirst_39 : decode cX3_isSameAsFirst 39 = .ok (.goto 4, 3) := by decide +kernel
theorem dX3_isSameAsFirst_42 : decode cX3_isSameAsFirst 42 = .ok (.iconst 0, 1) := by decide +kernel
theorem dX3_isSameAsFirst_43 : decode cX3_isSameAsFirst 43 = .ok (.istore_n 1, 1) := by decide +kernel
theorem dX3_isSameAsFirst_44 : decode cX3_isSameAsFirst 44 = .ok (.iinc 2 1, 3) := by decide +kernel
theorem dX3_isSameAsFirst_47 : decode cX3_isSameAsFirst 47 = .ok (.goto (-42), 3) := by decide +kernel
theorem dX3_isSameAsFirst_50 : decode cX3_isSameAsFirst 50 = .ok (.iload_n 1, 1) := by decide +kernel
theorem dX3_isSameAsFirst_51 : decode cX3_isSameAsFirst 51 = .ok (.ireturn, 1) := by decide +kernel
theorem dX3_findCycle_0 : decode cX3_findCycle 0 = .ok (.aload_n 0, 1) := by decide +kernel
theorem dX3_findCycle_1 : decode cX3_findCycle 1 = .ok (.bipush (-9), 2) := by decide +kernel
theorem dX3_findCycle_3 : decode cX3_findCycle 3 = .ok (.putfield 170, 3) := by decide +kernel
theorem dX3_findCycle_6 : decode cX3_findCycle 6 = .ok (.aload_n 0, 1) := by decide +kernel
theorem dX3_findCycle_7 : decode cX3_findCycle 7 = .ok (.bipush (-9), 2) := by decide +kernel
theorem dX3_findCycle_9 : decode cX3_findCycle 9 = .ok (.putfield 173, 3) := by decide +kernel
theorem dX3_findCycle_12 : decode cX3_findCycle 12 = .ok (.aload_n 0, 1) := by decide +kernel
theorem dX3_findCycle_13 : decode cX3_findCycle 13 = .ok (.iload_n 1, 1) := by decide +kernel
theorem dX3_findCycle_14 : decode cX3_findCycle 14 = .ok (.invokevirtual 167, 3) := by decide +kernel
theorem dX3_findCycle_17 : decode cX3_findCycle 17 = .ok (.bipush (-9), 2) := by decide +kernel
theorem dX3_findCycle_19 : decode cX3_findCycle 19 = .ok (.if_icmp .eq 4, 3) := by decide +kernel
theorem dX3_findCycle_22 : decode cX3_findCycle 22 = .ok (.return_, 1) := by decide +kernel
theorem dX3_findCycle_23 : decode cX3_findCycle 23 = .ok (.aload_n 0, 1) := by decide +kernel
theorem dX3_findCycle_24 : decode cX3_findCycle 24 = .ok (.invokevirtual 161, 3) := by decide +kernel
theorem dX3_findCycle_27 : decode cX3_findCycle 27 = .ok (.iconst 0, 1) := by decide +kernel
theorem dX3_findCycle_28 : decode cX3_findCycle 28 = .ok (.istore_n 2, 1) := by decide +kernel
theorem dX3_findCycle_29 : decode cX3_findCycle 29 = .ok (.iload_n 2, 1) := by decide +kernel
theorem dX3_findCycle_30 : decode cX3_findCycle 30 = .ok (.sipush 289, 3) := by decide +kernel
theorem dX3_findCycle_33 : decode cX3_findCycle 33 = .ok (.if_icmp .ge 21, 3) := by decide +kernel
theorem dX3_findCycle_36 : decode cX3_findCycle 36 = .ok (.aload_n 0, 1) := by decide +kernel
theorem dX3_findCycle_37 : decode cX3_findCycle 37 = .ok (.getfield 19, 3) := by decide +kernel
theorem dX3_findCycle_40 : decode cX3_findCycle 40 = .ok (.iload_n 2, 1) := by decide +kernel
theorem dX3_findCycle_41 : decode cX3_findCycle 41 = .ok (.aload_n 0, 1) := by decide +kernel
theorem dX3_findCycle_42 : decode cX3_findCycle 42 = .ok (.getfield 7, 3) := by decide +kernel
theorem dX3_findCycle_45 : decode cX3_findCycle 45 = .ok (.iload_n 2, 1) := by decide +kernel
theorem dX3_findCycle_46 : decode cX3_findCycle 46 = .ok (.iaload, 1) := by decide +kernel
theorem dX3_findCycle_47 : decode cX3_findCycle 47 = .ok (.iastore, 1) := by decide +kernel
theorem dX3_findCycle_48 : decode cX3_findCycle 48 = .ok (.iinc 2 1, 3) := by decide +kernel
theorem dX3_findCycle_51 : decode cX3_findCycle 51 = .ok (.goto (-22), 3) := by decide +kernel
theorem dX3_findCycle_54 : decode cX3_findCycle 54 = .ok (.iconst 0, 1) := by decide +kernel
theorem dX3_findCycle_55 : decode cX3_findCycle 55 = .ok (.istore_n 2, 1) := by decide +kernel
theorem dX3_findCycle_56 : decode cX3_findCycle 56 = .ok (.iload_n 2, 1) := by decide +kernel
theorem dX3_findCycle_57 : decode cX3_findCycle 57 = .ok (.iload_n 1, 1) := by decide +kernel
theorem dX3_findCycle_58 : decode cX3_findCycle 58 = .ok (.if_icmp .ge 150, 3) := by decide +kernel
theorem dX3_findCycle_61 : decode cX3_findCycle 61 = .ok (.aload_n 0, 1) := by decide +kernel
theorem dX3_findCycle_62 : decode cX3_findCycle 62 = .ok (.getfield 170, 3) := by decide +kernel
theorem dX3_findCycle_65 : decode cX3_findCycle 65 = .ok (.bipush (-9), 2) := by decide +kernel
theorem dX3_findCycle_67 : decode cX3_findCycle 67 = .ok (.if_icmp .ne 141, 3) := by decide +kernel
theorem dX3_findCycle_70 : decode cX3_findCycle 70 = .ok (.iconst 0, 1) := by decide +kernel
theorem dX3_findCycle_71 : decode cX3_findCycle 71 = .ok (.istore_n 3, 1) := by decide +kernel
theorem dX3_findCycle_72 : decode cX3_findCycle 72 = .ok (.iload_n 3, 1) := by decide +kernel
theorem dX3_findCycle_73 : decode cX3_findCycle 73 = .ok (.sipush 289, 3) := by decide +kernel
theorem dX3_findCycle_76 : decode cX3_findCycle 76 = .ok (.if_icmp .ge 21, 3) := by decide +kernel
theorem dX3_findCycle_79 : decode cX3_findCycle 79 = .ok (.aload_n 0, 1) := by decide +kernel
theorem dX3_findCycle_80 : decode cX3_findCycle 80 = .ok (.getfield 7, 3) := by decide +kernel
theorem dX3_findCycle_83 : decode cX3_findCycle 83 = .ok (.iload_n 3, 1) := by decide +kernel
theorem dX3_findCycle_84 : decode cX3_findCycle 84 = .ok (.aload_n 0, 1) := by decide +kernel
theorem dX3_findCycle_85 : decode cX3_findCycle 85 = .ok (.getfield 19, 3) := by decide +kernel
theorem dX3_findCycle_88 : decode cX3_findCycle 88 = .ok (.iload_n 3, 1) := by decide +kernel
theorem dX3_findCycle_89 : decode cX3_findCycle 89 = .ok (.iaload, 1) := by decide +kernel
theorem dX3_findCycle_90 : decode cX3_findCycle 90 = .ok (.iastore, 1) := by decide +kernel
theorem dX3_findCycle_91 : decode cX3_findCycle 91 = .ok (.iinc 3 1, 3) := by decide +kernel
theorem dX3_findCycle_94 : decode cX3_findCycle 94 = .ok (.goto (-22), 3) := by decide +kernel
theorem dX3_findCycle_97 : decode cX3_findCycle 97 = .ok (.iload_n 2, 1) := by decide +kernel
theorem dX3_findCycle_98 : decode cX3_findCycle 98 = .ok (.iconst 1, 1) := by decide +kernel
theorem dX3_findCycle_99 : decode cX3_findCycle 99 = .ok (.iadd, 1) := by decide +kernel
theorem dX3_findCycle_100 : decode cX3_findCycle 100 = .ok (.istore_n 3, 1) := by decide +kernel
theorem dX3_findCycle_101 : decode cX3_findCycle 101 = .ok (.iload_n 3, 1) := by decide +kernel
theorem dX3_findCycle_102 : decode cX3_findCycle 102 = .ok (.iload_n 1, 1) := by decide +kernel
theorem dX3_findCycle_103 : decode cX3_findCycle 103 = .ok (.if_icmp .gt 41, 3) := by decide +kernel
theorem dX3_findCycle_106 : decode cX3_findCycle 106 = .ok (.aload_n 0, 1) := by decide +kernel
theorem dX3_findCycle_107 : decode cX3_findCycle 107 = .ok (.getfield 170, 3) := by decide +kernel
theorem dX3_findCycle_110 : decode cX3_findCycle 110 = .ok (.bipush (-9), 2) := by decide +kernel
theorem dX3_findCycle_112 : decode cX3_findCycle 112 = .ok (.if_icmp .ne 32, 3) := by decide +kernel
theorem dX3_findCycle_115 : decode cX3_findCycle 115 = .ok (.aload_n 0, 1) := by decide +kernel
theorem dX3_findCycle_116 : decode cX3_findCycle 116 = .ok (.invokevirtual 148, 3) := by decide +kernel
theorem dX3_findCycle_119 : decode cX3_findCycle 119 = .ok (.aload_n 0, 1) := by decide +kernel
theorem dX3_findCycle_120 : decode cX3_findCycle 120 = .ok (.invokevirtual 176, 3) := by decide +kernel
theorem dX3_findCycle_123 : decode cX3_findCycle 123 = .ok (.ifCond .eq 15, 3) := by decide +kernel
theorem dX3_findCycle_126 : decode cX3_findCycle 126 = .ok (.aload_n 0, 1) := by decide +kernel
theorem dX3_findCycle_127 : decode cX3_findCycle 127 = .ok (.iload_n 2, 1) := by decide +kernel
theorem dX3_findCycle_128 : decode cX3_findCycle 128 = .ok (.putfield 170, 3) := by decide +kernel
theorem dX3_findCycle_131 : decode cX3_findCycle 131 = .ok (.aload_n 0, 1) := by decide +kernel
theorem dX3_findCycle_132 : decode cX3_findCycle 132 = .ok (.iload_n 3, 1) := by decide +kernel
theorem dX3_findCycle_133 : decode cX3_findCycle 133 = .ok (.iload_n 2, 1) := by decide +kernel
theorem dX3_findCycle_134 : decode cX3_findCycle 134 = .ok (.isub, 1) := by decide +kernel
theorem dX3_findCycle_135 : decode cX3_findCycle 135 = .ok (.putfield 173, 3) := by decide +kernel
theorem dX3_findCycle_138 : decode cX3_findCycle 138 = .ok (.iinc 3 1, 3) := by decide +kernel
theorem dX3_findCycle_141 : decode cX3_findCycle 141 = .ok (.goto (-40), 3) := by decide +kernel
theorem dX3_findCycle_144 : decode cX3_findCycle 144 = .ok (.iconst 0, 1) := by decide +kernel
theorem dX3_findCycle_145 : decode cX3_findCycle 145 = .ok (.istore_n 3, 1) := by decide +kernel
theorem dX3_findCycle_146 : decode cX3_findCycle 146 = .ok (.iload_n 3, 1) := by decide +kernel
theorem dX3_findCycle_147 : decode cX3_findCycle 147 = .ok (.sipush 289, 3) := by decide +kernel
theorem dX3_findCycle_150 : decode cX3_findCycle 150 = .ok (.if_icmp .ge 21, 3) := by decide +kernel
theorem dX3_findCycle_153 : decode cX3_findCycle 153 = .ok (.aload_n 0, 1) := by decide +kernel
theorem dX3_findCycle_154 : decode cX3_findCycle 154 = .ok (.getfield 7, 3) := by decide +kernel
theorem dX3_findCycle_157 : decode cX3_findCycle 157 = .ok (.iload_n 3, 1) := by decide +kernel
theorem dX3_findCycle_158 : decode cX3_findCycle 158 = .ok (.aload_n 0, 1) := by decide +kernel
theorem dX3_findCycle_159 : decode cX3_findCycle 159 = .ok (.getfield 19, 3) := by decide +kernel
theorem dX3_findCycle_162 : decode cX3_findCycle 162 = .ok (.iload_n 3, 1) := by decide +kernel
theorem dX3_findCycle_163 : decode cX3_findCycle 163 = .ok (.iaload, 1) := by decide +kernel
theorem dX3_findCycle_164 : decode cX3_findCycle 164 = .ok (.iastore, 1) := by decide +kernel
theorem dX3_findCycle_165 : decode cX3_findCycle 165 = .ok (.iinc 3 1, 3) := by decide +kernel
theorem dX3_findCycle_168 : decode cX3_findCycle 168 = .ok (.goto (-22), 3) := by decide +kernel
theorem dX3_findCycle_171 : decode cX3_findCycle 171 = .ok (.aload_n 0, 1) := by decide +kernel
theorem dX3_findCycle_172 : decode cX3_findCycle 172 = .ok (.invokevirtual 148, 3) := by decide +kernel
theorem dX3_findCycle_175 : decode cX3_findCycle 175 = .ok (.iconst 0, 1) := by decide +kernel
theorem dX3_findCycle_176 : decode cX3_findCycle 176 = .ok (.istore_n 3, 1) := by decide +kernel
theorem dX3_findCycle_177 : decode cX3_findCycle 177 = .ok (.iload_n 3, 1) := by decide +kernel
theorem dX3_findCycle_178 : decode cX3_findCycle 178 = .ok (.sipush 289, 3) := by decide +kernel
theorem dX3_findCycle_181 : decode cX3_findCycle 181 = .ok (.if_icmp .ge 21, 3) := by decide +kernel
theorem dX3_findCycle_184 : decode cX3_findCycle 184 = .ok (.aload_n 0, 1) := by decide +kernel
theorem dX3_findCycle_185 : decode cX3_findCycle 185 = .ok (.getfield 19, 3) := by decide +kernel
theorem dX3_findCycle_188 : decode cX3_findCycle 188 = .ok (.iload_n 3, 1) := by decide +kernel
theorem dX3_findCycle_189 : decode cX3_findCycle 189 = .ok (.aload_n 0, 1) := by decide +kernel
theorem dX3_findCycle_190 : decode cX3_findCycle 190 = .ok (.getfield 7, 3) := by decide +kernel
theorem dX3_findCycle_193 : decode cX3_findCycle 193 = .ok (.iload_n 3, 1) := by decide +kernel
theorem dX3_findCycle_194 : decode cX3_findCycle 194 = .ok (.iaload, 1) := by decide +kernel
theorem dX3_findCycle_195 : decode cX3_findCycle 195 = .ok (.iastore, 1) := by decide +kernel
theorem dX3_findCycle_196 : decode cX3_findCycle 196 = .ok (.iinc 3 1, 3) := by decide +kernel
theorem dX3_findCycle_199 : decode cX3_findCycle 199 = .ok (.goto (-22), 3) := by decide +kernel
theorem dX3_findCycle_202 : decode cX3_findCycle 202 = .ok (.iinc 2 1, 3) := by decide +kernel
theorem dX3_findCycle_205 : decode cX3_findCycle 205 = .ok (.goto (-149), 3) := by decide +kernel
theorem dX3_findCycle_208 : decode cX3_findCycle 208 = .ok (.aload_n 0, 1) := by decide +kernel
theorem dX3_findCycle_209 : decode cX3_findCycle 209 = .ok (.invokevirtual 164, 3) := by decide +kernel
theorem dX3_findCycle_212 : decode cX3_findCycle 212 = .ok (.return_, 1) := by decide +kernel
theorem dX3_cycleStart_0 : decode cX3_cycleStart 0 = .ok (.iload_n 1, 1) := by decide +kernel
theorem dX3_cycleStart_1 : decode cX3_cycleStart 1 = .ok (.iconst 1, 1) := by decide +kernel
theorem dX3_cycleStart_2 : decode cX3_cycleStart 2 = .ok (.sipush 200, 3) := by decide +kernel
theorem dX3_cycleStart_5 : decode cX3_cycleStart 5 = .ok (.invokestatic 44, 3) := by decide +kernel
theorem dX3_cycleStart_8 : decode cX3_cycleStart 8 = .ok (.ifCond .ne 5, 3) := by decide +kernel
theorem dX3_cycleStart_11 : decode cX3_cycleStart 11 = .ok (.iconst (-1), 1) := by decide +kernel
theorem dX3_cycleStart_12 : decode cX3_cycleStart 12 = .ok (.ireturn, 1) := by decide +kernel
theorem dX3_cycleStart_13 : decode cX3_cycleStart 13 = .ok (.aload_n 0, 1) := by decide +kernel
theorem dX3_cycleStart_14 : decode cX3_cycleStart 14 = .ok (.iload_n 1, 1) := by decide +kernel
theorem dX3_cycleStart_15 : decode cX3_cycleStart 15 = .ok (.invokevirtual 179, 3) := by decide +kernel
theorem dX3_cycleStart_18 : decode cX3_cycleStart 18 = .ok (.aload_n 0, 1) := by decide +kernel
theorem dX3_cycleStart_19 : decode cX3_cycleStart 19 = .ok (.getfield 170, 3) := by decide +kernel
theorem dX3_cycleStart_22 : decode cX3_cycleStart 22 = .ok (.ireturn, 1) := by decide +kernel
theorem dX3_cycleLength_0 : decode cX3_cycleLength 0 = .ok (.iload_n 1, 1) := by decide +kernel
theorem dX3_cycleLength_1 : decode cX3_cycleLength 1 = .ok (.iconst 1, 1) := by decide +kernel
theorem dX3_cycleLength_2 : decode cX3_cycleLength 2 = .ok (.sipush 200, 3) := by decide +kernel
theorem dX3_cycleLength_5 : decode cX3_cycleLength 5 = .ok (.invokestatic 44, 3) := by decide +kernel
theorem dX3_cycleLength_8 : decode cX3_cycleLength 8 = .ok (.ifCond .ne 5, 3) := by decide +kernel
theorem dX3_cycleLength_11 : decode cX3_cycleLength 11 = .ok (.iconst (-1), 1) := by decide +kernel
theorem dX3_cycleLength_12 : decode cX3_cycleLength 12 = .ok (.ireturn, 1) := by decide +kernel
theorem dX3_cycleLength_13 : decode cX3_cycleLength 13 = .ok (.aload_n 0, 1) := by decide +kernel
theorem dX3_cycleLength_14 : decode cX3_cycleLength 14 = .ok (.iload_n 1, 1) := by decide +kernel
theorem dX3_cycleLength_15 : decode cX3_cycleLength 15 = .ok (.invokevirtual 179, 3) := by decide +kernel
theorem dX3_cycleLength_18 : decode cX3_cycleLength 18 = .ok (.aload_n 0, 1) := by decide +kernel
theorem dX3_cycleLength_19 : decode cX3_cycleLength 19 = .ok (.getfield 173, 3) := by decide +kernel
theorem dX3_cycleLength_22 : decode cX3_cycleLength 22 = .ok (.ireturn, 1) := by decide +kernel
theorem dX3_cellAt_0 : decode cX3_cellAt 0 = .ok (.iload_n 1, 1) := by decide +kernel
theorem dX3_cellAt_1 : decode cX3_cellAt 1 = .ok (.iload_n 2, 1) := by decide +kernel
theorem dX3_cellAt_2 : decode cX3_cellAt 2 = .ok (.invokestatic 65, 3) := by decide +kernel
theorem dX3_cellAt_5 : decode cX3_cellAt 5 = .ok (.ifCond .eq 20, 3) := by decide +kernel
theorem dX3_cellAt_8 : decode cX3_cellAt 8 = .ok (.aload_n 0, 1) := by decide +kernel
theorem dX3_cellAt_9 : decode cX3_cellAt 9 = .ok (.getfield 7, 3) := by decide +kernel
theorem dX3_cellAt_12 : decode cX3_cellAt 12 = .ok (.bipush 72, 2) := by decide +kernel
theorem dX3_cellAt_14 : decode cX3_cellAt 14 = .ok (.bipush 12, 2) := by decide +kernel
theorem dX3_cellAt_16 : decode cX3_cellAt 16 = .ok (.iload_n 2, 1) := by decide +kernel
theorem dX3_cellAt_17 : decode cX3_cellAt 17 = .ok (.imul, 1) := by decide +kernel
theorem dX3_cellAt_18 : decode cX3_cellAt 18 = .ok (.iadd, 1) := by decide +kernel
theorem dX3_cellAt_19 : decode cX3_cellAt 19 = .ok (.iload_n 1, 1) := by decide +kernel
theorem dX3_cellAt_20 : decode cX3_cellAt 20 = .ok (.iadd, 1) := by decide +kernel
theorem dX3_cellAt_21 : decode cX3_cellAt 21 = .ok (.iaload, 1) := by decide +kernel
theorem dX3_cellAt_22 : decode cX3_cellAt 22 = .ok (.goto 4, 3) := by decide +kernel
theorem dX3_cellAt_25 : decode cX3_cellAt 25 = .ok (.iconst (-1), 1) := by decide +kernel
theorem dX3_cellAt_26 : decode cX3_cellAt 26 = .ok (.ireturn, 1) := by decide +kernel
theorem dX3_changedCells_0 : decode cX3_changedCells 0 = .ok (.iconst 0, 1) := by decide +kernel
theorem dX3_changedCells_1 : decode cX3_changedCells 1 = .ok (.istore_n 1, 1) := by decide +kernel
theorem dX3_changedCells_2 : decode cX3_changedCells 2 = .ok (.iconst 0, 1) := by decide +kernel
theorem dX3_changedCells_3 : decode cX3_changedCells 3 = .ok (.istore_n 2, 1) := by decide +kernel
theorem dX3_changedCells_4 : decode cX3_changedCells 4 = .ok (.iload_n 2, 1) := by decide +kernel
theorem dX3_changedCells_5 : decode cX3_changedCells 5 = .ok (.bipush 72, 2) := by decide +kernel
theorem dX3_changedCells_7 : decode cX3_changedCells 7 = .ok (.if_icmp .ge 35, 3) := by decide +kernel
theorem dX3_changedCells_10 : decode cX3_changedCells 10 = .ok (.iload_n 1, 1) := by decide +kernel
theorem dX3_changedCells_11 : decode cX3_changedCells 11 = .ok (.aload_n 0, 1) := by decide +kernel
theorem dX3_changedCells_12 : decode cX3_changedCells 12 = .ok (.getfield 7, 3) := by decide +kernel
theorem dX3_changedCells_15 : decode cX3_changedCells 15 = .ok (.iload_n 2, 1) := by decide +kernel
theorem dX3_changedCells_16 : decode cX3_changedCells 16 = .ok (.iaload, 1) := by decide +kernel
theorem dX3_changedCells_17 : decode cX3_changedCells 17 = .ok (.aload_n 0, 1) := by decide +kernel
theorem dX3_changedCells_18 : decode cX3_changedCells 18 = .ok (.getfield 7, 3) := by decide +kernel
theorem dX3_changedCells_21 : decode cX3_changedCells 21 = .ok (.bipush 72, 2) := by decide +kernel
theorem dX3_changedCells_23 : decode cX3_changedCells 23 = .ok (.iload_n 2, 1) := by decide +kernel
theorem dX3_changedCells_24 : decode cX3_changedCells 24 = .ok (.iadd, 1) := by decide +kernel
theorem dX3_changedCells_25 : decode cX3_changedCells 25 = .ok (.iaload, 1) := by decide +kernel
theorem dX3_changedCells_26 : decode cX3_changedCells 26 = .ok (.if_icmp .ne 7, 3) := by decide +kernel
theorem dX3_changedCells_29 : decode cX3_changedCells 29 = .ok (.iconst 0, 1) := by decide +kernel
theorem dX3_changedCells_30 : decode cX3_changedCells 30 = .ok (.goto 4, 3) := by decide +kernel
theorem dX3_changedCells_33 : decode cX3_changedCells 33 = .ok (.iconst 1, 1) := by decide +kernel
theorem dX3_changedCells_34 : decode cX3_changedCells 34 = .ok (.iadd, 1) := by decide +kernel
theorem dX3_changedCells_35 : decode cX3_changedCells 35 = .ok (.istore_n 1, 1) := by decide +kernel
theorem dX3_changedCells_36 : decode cX3_changedCells 36 = .ok (.iinc 2 1, 3) := by decide +kernel
theorem dX3_changedCells_39 : decode cX3_changedCells 39 = .ok (.goto (-35), 3) := by decide +kernel
theorem dX3_changedCells_42 : decode cX3_changedCells 42 = .ok (.iload_n 1, 1) := by decide +kernel
theorem dX3_changedCells_43 : decode cX3_changedCells 43 = .ok (.ireturn, 1) := by decide +kernel
theorem dX3_pointerCount_0 : decode cX3_pointerCount 0 = .ok (.aload_n 0, 1) := by decide +kernel
theorem dX3_pointerCount_1 : decode cX3_pointerCount 1 = .ok (.getfield 7, 3) := by decide +kernel
theorem dX3_pointerCount_4 : decode cX3_pointerCount 4 = .ok (.sipush 145, 3) := by decide +kernel
theorem dX3_pointerCount_7 : decode cX3_pointerCount 7 = .ok (.iaload, 1) := by decide +kernel
theorem dX3_pointerCount_8 : decode cX3_pointerCount 8 = .ok (.ireturn, 1) := by decide +kernel
theorem dX3_isPointer_0 : decode cX3_isPointer 0 = .ok (.iload_n 1, 1) := by decide +kernel
theorem dX3_isPointer_1 : decode cX3_isPointer 1 = .ok (.iconst 0, 1) := by decide +kernel
theorem dX3_isPointer_2 : decode cX3_isPointer 2 = .ok (.aload_n 0, 1) := by decide +kernel
theorem dX3_isPointer_3 : decode cX3_isPointer 3 = .ok (.getfield 7, 3) := by decide +kernel
theorem dX3_isPointer_6 : decode cX3_isPointer 6 = .ok (.sipush 145, 3) := by decide +kernel
theorem dX3_isPointer_9 : decode cX3_isPointer 9 = .ok (.iaload, 1) := by decide +kernel
theorem dX3_isPointer_10 : decode cX3_isPointer 10 = .ok (.iconst 1, 1) := by decide +kernel
theorem dX3_isPointer_11 : decode cX3_isPointer 11 = .ok (.isub, 1) := by decide +kernel
theorem dX3_isPointer_12 : decode cX3_isPointer 12 = .ok (.invokestatic 44, 3) := by decide +kernel
theorem dX3_isPointer_15 : decode cX3_isPointer 15 = .ok (.ireturn, 1) := by decide +kernel
theorem dX3_pointerAt_0 : decode cX3_pointerAt 0 = .ok (.aload_n 0, 1) := by decide +kernel
theorem dX3_pointerAt_1 : decode cX3_pointerAt 1 = .ok (.iload_n 1, 1) := by decide +kernel
theorem dX3_pointerAt_2 : decode cX3_pointerAt 2 = .ok (.invokevirtual 182, 3) := by decide +kernel
theorem dX3_pointerAt_5 : decode cX3_pointerAt 5 = .ok (.ifCond .eq 16, 3) := by decide +kernel
theorem dX3_pointerAt_8 : decode cX3_pointerAt 8 = .ok (.aload_n 0, 1) := by decide +kernel
theorem dX3_pointerAt_9 : decode cX3_pointerAt 9 = .ok (.getfield 7, 3) := by decide +kernel
theorem dX3_pointerAt_12 : decode cX3_pointerAt 12 = .ok (.sipush 146, 3) := by decide +kernel
theorem dX3_pointerAt_15 : decode cX3_pointerAt 15 = .ok (.iload_n 1, 1) := by decide +kernel
theorem dX3_pointerAt_16 : decode cX3_pointerAt 16 = .ok (.iadd, 1) := by decide +kernel
theorem dX3_pointerAt_17 : decode cX3_pointerAt 17 = .ok (.iaload, 1) := by decide +kernel
theorem dX3_pointerAt_18 : decode cX3_pointerAt 18 = .ok (.goto 4, 3) := by decide +kernel
theorem dX3_pointerAt_21 : decode cX3_pointerAt 21 = .ok (.iconst (-1), 1) := by decide +kernel
theorem dX3_pointerAt_22 : decode cX3_pointerAt 22 = .ok (.ireturn, 1) := by decide +kernel
theorem dX3_position_0 : decode cX3_position 0 = .ok (.aload_n 0, 1) := by decide +kernel
theorem dX3_position_1 : decode cX3_position 1 = .ok (.iload_n 1, 1) := by decide +kernel
theorem dX3_position_2 : decode cX3_position 2 = .ok (.invokevirtual 182, 3) := by decide +kernel
theorem dX3_position_5 : decode cX3_position 5 = .ok (.ifCond .eq 22, 3) := by decide +kernel
theorem dX3_position_8 : decode cX3_position 8 = .ok (.bipush 12, 2) := by decide +kernel
theorem dX3_position_10 : decode cX3_position 10 = .ok (.aload_n 0, 1) := by decide +kernel
theorem dX3_position_11 : decode cX3_position 11 = .ok (.iload_n 1, 1) := by decide +kernel
theorem dX3_position_12 : decode cX3_position 12 = .ok (.iconst 1, 1) := by decide +kernel
theorem dX3_position_13 : decode cX3_position 13 = .ok (.invokevirtual 69, 3) := by decide +kernel
theorem dX3_position_16 : decode cX3_position 16 = .ok (.imul, 1) := by decide +kernel
theorem dX3_position_17 : decode cX3_position 17 = .ok (.aload_n 0, 1) := by decide +kernel
theorem dX3_position_18 : decode cX3_position 18 = .ok (.iload_n 1, 1) := by decide +kernel
theorem dX3_position_19 : decode cX3_position 19 = .ok (.iconst 0, 1) := by decide +kernel
theorem dX3_position_20 : decode cX3_position 20 = .ok (.invokevirtual 69, 3) := by decide +kernel
theorem dX3_position_23 : decode cX3_position 23 = .ok (.iadd, 1) := by decide +kernel
theorem dX3_position_24 : decode cX3_position 24 = .ok (.goto 4, 3) := by decide +kernel
theorem dX3_position_27 : decode cX3_position 27 = .ok (.iconst (-1), 1) := by decide +kernel
theorem dX3_position_28 : decode cX3_position 28 = .ok (.ireturn, 1) := by decide +kernel
theorem dX3_direction_0 : decode cX3_direction 0 = .ok (.aload_n 0, 1) := by decide +kernel
theorem dX3_direction_1 : decode cX3_direction 1 = .ok (.iload_n 1, 1) := by decide +kernel
theorem dX3_direction_2 : decode cX3_direction 2 = .ok (.invokevirtual 182, 3) := by decide +kernel
theorem dX3_direction_5 : decode cX3_direction 5 = .ok (.ifCond .eq 12, 3) := by decide +kernel
theorem dX3_direction_8 : decode cX3_direction 8 = .ok (.aload_n 0, 1) := by decide +kernel
theorem dX3_direction_9 : decode cX3_direction 9 = .ok (.iload_n 1, 1) := by decide +kernel
theorem dX3_direction_10 : decode cX3_direction 10 = .ok (.iconst 2, 1) := by decide +kernel
theorem dX3_direction_11 : decode cX3_direction 11 = .ok (.invokevirtual 69, 3) := by decide +kernel
theorem dX3_direction_14 : decode cX3_direction 14 = .ok (.goto 4, 3) := by decide +kernel
theorem dX3_direction_17 : decode cX3_direction 17 = .ok (.iconst (-1), 1) := by decide +kernel
theorem dX3_direction_18 : decode cX3_direction 18 = .ok (.ireturn, 1) := by decide +kernel
theorem dX3_status_0 : decode cX3_status 0 = .ok (.aload_n 0, 1) := by decide +kernel
theorem dX3_status_1 : decode cX3_status 1 = .ok (.iload_n 1, 1) := by decide +kernel
theorem dX3_status_2 : decode cX3_status 2 = .ok (.invokevirtual 182, 3) := by decide +kernel
theorem dX3_status_5 : decode cX3_status 5 = .ok (.ifCond .eq 12, 3) := by decide +kernel
theorem dX3_status_8 : decode cX3_status 8 = .ok (.aload_n 0, 1) := by decide +kernel
theorem dX3_status_9 : decode cX3_status 9 = .ok (.iload_n 1, 1) := by decide +kernel
theorem dX3_status_10 : decode cX3_status 10 = .ok (.iconst 3, 1) := by decide +kernel
theorem dX3_status_11 : decode cX3_status 11 = .ok (.invokevirtual 69, 3) := by decide +kernel
theorem dX3_status_14 : decode cX3_status 14 = .ok (.goto 4, 3) := by decide +kernel
theorem dX3_status_17 : decode cX3_status 17 = .ok (.iconst (-1), 1) := by decide +kernel
theorem dX3_status_18 : decode cX3_status 18 = .ok (.ireturn, 1) := by decide +kernel
theorem dX3_sleep_0 : decode cX3_sleep 0 = .ok (.aload_n 0, 1) := by decide +kernel
theorem dX3_sleep_1 : decode cX3_sleep 1 = .ok (.iload_n 1, 1) := by decide +kernel
theorem dX3_sleep_2 : decode cX3_sleep 2 = .ok (.invokevirtual 182, 3) := by decide +kernel
theorem dX3_sleep_5 : decode cX3_sleep 5 = .ok (.ifCond .eq 12, 3) := by decide +kernel
theorem dX3_sleep_8 : decode cX3_sleep 8 = .ok (.aload_n 0, 1) := by decide +kernel
theorem dX3_sleep_9 : decode cX3_sleep 9 = .ok (.iload_n 1, 1) := by decide +kernel
theorem dX3_sleep_10 : decode cX3_sleep 10 = .ok (.iconst 4, 1) := by decide +kernel
theorem dX3_sleep_11 : decode cX3_sleep 11 = .ok (.invokevirtual 69, 3) := by decide +kernel
theorem dX3_sleep_14 : decode cX3_sleep 14 = .ok (.goto 4, 3) := by decide +kernel
theorem dX3_sleep_17 : decode cX3_sleep 17 = .ok (.iconst (-1), 1) := by decide +kernel
theorem dX3_sleep_18 : decode cX3_sleep 18 = .ok (.ireturn, 1) := by decide +kernel
theorem dX3_stackCount_0 : decode cX3_stackCount 0 = .ok (.aload_n 0, 1) := by decide +kernel
theorem dX3_stackCount_1 : decode cX3_stackCount 1 = .ok (.iload_n 1, 1) := by decide +kernel
theorem dX3_stackCount_2 : decode cX3_stackCount 2 = .ok (.invokevirtual 182, 3) := by decide +kernel
theorem dX3_stackCount_5 : decode cX3_stackCount 5 = .ok (.ifCond .eq 12, 3) := by decide +kernel
theorem dX3_stackCount_8 : decode cX3_stackCount 8 = .ok (.aload_n 0, 1) := by decide +kernel
theorem dX3_stackCount_9 : decode cX3_stackCount 9 = .ok (.iload_n 1, 1) := by decide +kernel
theorem dX3_stackCount_10 : decode cX3_stackCount 10 = .ok (.iconst 5, 1) := by decide +kernel
theorem dX3_stackCount_11 : decode cX3_stackCount 11 = .ok (.invokevirtual 69, 3) := by decide +kernel
theorem dX3_stackCount_14 : decode cX3_stackCount 14 = .ok (.goto 4, 3) := by decide +kernel
theorem dX3_stackCount_17 : decode cX3_stackCount 17 = .ok (.iconst (-1), 1) := by decide +kernel
theorem dX3_stackCount_18 : decode cX3_stackCount 18 = .ok (.ireturn, 1) := by decide +kernel
theorem dX3_isStack_0 : decode cX3_isStack 0 = .ok (.aload_n 0, 1) := by decide +kernel
theorem dX3_isStack_1 : decode cX3_isStack 1 = .ok (.iload_n 1, 1) := by decide +kernel
theorem dX3_isStack_2 : decode cX3_isStack 2 = .ok (.invokevirtual 182, 3) := by decide +kernel
theorem dX3_isStack_5 : decode cX3_isStack 5 = .ok (.ifCond .eq 23, 3) := by decide +kernel
theorem dX3_isStack_8 : decode cX3_isStack 8 = .ok (.iload_n 2, 1) := by decide +kernel
theorem dX3_isStack_9 : decode cX3_isStack 9 = .ok (.iconst 0, 1) := by decide +kernel
theorem dX3_isStack_10 : decode cX3_isStack 10 = .ok (.aload_n 0, 1) := by decide +kernel
theorem dX3_isStack_11 : decode cX3_isStack 11 = .ok (.iload_n 1, 1) := by decide +kernel
theorem dX3_isStack_12 : decode cX3_isStack 12 = .ok (.iconst 5, 1) := by decide +kernel
theorem dX3_isStack_13 : decode cX3_isStack 13 = .ok (.invokevirtual 69, 3) := by decide +kernel
theorem dX3_isStack_16 : decode cX3_isStack 16 = .ok (.iconst 1, 1) := by decide +kernel
theorem dX3_isStack_17 : decode cX3_isStack 17 = .ok (.isub, 1) := by decide +kernel
theorem dX3_isStack_18 : decode cX3_isStack 18 = .ok (.invokestatic 44, 3) := by decide +kernel
theorem dX3_isStack_21 : decode cX3_isStack 21 = .ok (.ifCond .eq 7, 3) := by decide +kernel
theorem dX3_isStack_24 : decode cX3_isStack 24 = .ok (.iconst 1, 1) := by decide +kernel
theorem dX3_isStack_25 : decode cX3_isStack 25 = .ok (.goto 4, 3) := by decide +kernel
theorem dX3_isStack_28 : decode cX3_isStack 28 = .ok (.iconst 0, 1) := by decide +kernel
theorem dX3_isStack_29 : decode cX3_isStack 29 = .ok (.ireturn, 1) := by decide +kernel
theorem dX3_stackSize_0 : decode cX3_stackSize 0 = .ok (.aload_n 0, 1) := by decide +kernel
theorem dX3_stackSize_1 : decode cX3_stackSize 1 = .ok (.iload_n 1, 1) := by decide +kernel
theorem dX3_stackSize_2 : decode cX3_stackSize 2 = .ok (.iload_n 2, 1) := by decide +kernel
theorem dX3_stackSize_3 : decode cX3_stackSize 3 = .ok (.invokevirtual 186, 3) := by decide +kernel
theorem dX3_stackSize_6 : decode cX3_stackSize 6 = .ok (.ifCond .eq 15, 3) := by decide +kernel
theorem dX3_stackSize_9 : decode cX3_stackSize 9 = .ok (.aload_n 0, 1) := by decide +kernel
theorem dX3_stackSize_10 : decode cX3_stackSize 10 = .ok (.iload_n 1, 1) := by decide +kernel
theorem dX3_stackSize_11 : decode cX3_stackSize 11 = .ok (.bipush 6, 2) := by decide +kernel
theorem dX3_stackSize_13 : decode cX3_stackSize 13 = .ok (.iload_n 2, 1) := by decide +kernel
theorem dX3_stackSize_14 : decode cX3_stackSize 14 = .ok (.iadd, 1) := by decide +kernel
theorem dX3_stackSize_15 : decode cX3_stackSize 15 = .ok (.invokevirtual 69, 3) := by decide +kernel
theorem dX3_stackSize_18 : decode cX3_stackSize 18 = .ok (.goto 4, 3) := by decide +kernel
theorem dX3_stackSize_21 : decode cX3_stackSize 21 = .ok (.iconst (-1), 1) := by decide +kernel
theorem dX3_stackSize_22 : decode cX3_stackSize 22 = .ok (.ireturn, 1) := by decide +kernel
theorem dX3_valueAt_0 : decode cX3_valueAt 0 = .ok (.aload_n 0, 1) := by decide +kernel
theorem dX3_valueAt_1 : decode cX3_valueAt 1 = .ok (.iload_n 1, 1) := by decide +kernel
theorem dX3_valueAt_2 : decode cX3_valueAt 2 = .ok (.iload_n 2, 1) := by decide +kernel
theorem dX3_valueAt_3 : decode cX3_valueAt 3 = .ok (.invokevirtual 186, 3) := by decide +kernel
theorem dX3_valueAt_6 : decode cX3_valueAt 6 = .ok (.ifCond .eq 22, 3) := by decide +kernel
theorem dX3_valueAt_9 : decode cX3_valueAt 9 = .ok (.iload_n 3, 1) := by decide +kernel
theorem dX3_valueAt_10 : decode cX3_valueAt 10 = .ok (.iconst 0, 1) := by decide +kernel
theorem dX3_valueAt_11 : decode cX3_valueAt 11 = .ok (.aload_n 0, 1) := by decide +kernel
theorem dX3_valueAt_12 : decode cX3_valueAt 12 = .ok (.iload_n 1, 1) := by decide +kernel
theorem dX3_valueAt_13 : decode cX3_valueAt 13 = .ok (.bipush 6, 2) := by decide +kernel
theorem dX3_valueAt_15 : decode cX3_valueAt 15 = .ok (.iload_n 2, 1) := by decide +kernel
theorem dX3_valueAt_16 : decode cX3_valueAt 16 = .ok (.iadd, 1) := by decide +kernel
theorem dX3_valueAt_17 : decode cX3_valueAt 17 = .ok (.invokevirtual 69, 3) := by decide +kernel
theorem dX3_valueAt_20 : decode cX3_valueAt 20 = .ok (.iconst 1, 1) := by decide +kernel
theorem dX3_valueAt_21 : decode cX3_valueAt 21 = .ok (.isub, 1) := by decide +kernel
theorem dX3_valueAt_22 : decode cX3_valueAt 22 = .ok (.invokestatic 44, 3) := by decide +kernel
theorem dX3_valueAt_25 : decode cX3_valueAt 25 = .ok (.ifCond .ne 5, 3) := by decide +kernel
theorem dX3_valueAt_28 : decode cX3_valueAt 28 = .ok (.iconst 0, 1) := by decide +kernel
theorem dX3_valueAt_29 : decode cX3_valueAt 29 = .ok (.ireturn, 1) := by decide +kernel
theorem dX3_valueAt_30 : decode cX3_valueAt 30 = .ok (.bipush 9, 2) := by decide +kernel
theorem dX3_valueAt_32 : decode cX3_valueAt 32 = .ok (.iload_n 3, 1) := by decide +kernel
theorem dX3_valueAt_33 : decode cX3_valueAt 33 = .ok (.iadd, 1) := by decide +kernel
theorem dX3_valueAt_34 : decode cX3_valueAt 34 = .ok (.istore 4, 2) := by decide +kernel
theorem dX3_valueAt_36 : decode cX3_valueAt 36 = .ok (.iconst 0, 1) := by decide +kernel
theorem dX3_valueAt_37 : decode cX3_valueAt 37 = .ok (.istore 5, 2) := by decide +kernel
theorem dX3_valueAt_39 : decode cX3_valueAt 39 = .ok (.iload 5, 2) := by decide +kernel
theorem dX3_valueAt_41 : decode cX3_valueAt 41 = .ok (.iload_n 2, 1) := by decide +kernel
theorem dX3_valueAt_42 : decode cX3_valueAt 42 = .ok (.if_icmp .ge 24, 3) := by decide +kernel
theorem dX3_valueAt_45 : decode cX3_valueAt 45 = .ok (.iload 4, 2) := by decide +kernel
theorem dX3_valueAt_47 : decode cX3_valueAt 47 = .ok (.aload_n 0, 1) := by decide +kernel
theorem dX3_valueAt_48 : decode cX3_valueAt 48 = .ok (.iload_n 1, 1) := by decide +kernel
theorem dX3_valueAt_49 : decode cX3_valueAt 49 = .ok (.bipush 6, 2) := by decide +kernel
theorem dX3_valueAt_51 : decode cX3_valueAt 51 = .ok (.iload 5, 2) := by decide +kernel
theorem dX3_valueAt_53 : decode cX3_valueAt 53 = .ok (.iadd, 1) := by decide +kernel
theorem dX3_valueAt_54 : decode cX3_valueAt 54 = .ok (.invokevirtual 69, 3) := by decide +kernel
theorem dX3_valueAt_57 : decode cX3_valueAt 57 = .ok (.iadd, 1) := by decide +kernel
theorem dX3_valueAt_58 : decode cX3_valueAt 58 = .ok (.istore 4, 2) := by decide +kernel
theorem dX3_valueAt_60 : decode cX3_valueAt 60 = .ok (.iinc 5 1, 3) := by decide +kernel
theorem dX3_valueAt_63 : decode cX3_valueAt 63 = .ok (.goto (-24), 3) := by decide +kernel
theorem dX3_valueAt_66 : decode cX3_valueAt 66 = .ok (.aload_n 0, 1) := by decide +kernel
theorem dX3_valueAt_67 : decode cX3_valueAt 67 = .ok (.iload_n 1, 1) := by decide +kernel
theorem dX3_valueAt_68 : decode cX3_valueAt 68 = .ok (.iload 4, 2) := by decide +kernel
theorem dX3_valueAt_70 : decode cX3_valueAt 70 = .ok (.invokevirtual 69, 3) := by decide +kernel
theorem dX3_valueAt_73 : decode cX3_valueAt 73 = .ok (.ireturn, 1) := by decide +kernel
theorem dX3_inputSize_0 : decode cX3_inputSize 0 = .ok (.aload_n 0, 1) := by decide +kernel
theorem dX3_inputSize_1 : decode cX3_inputSize 1 = .ok (.getfield 7, 3) := by decide +kernel
theorem dX3_inputSize_4 : decode cX3_inputSize 4 = .ok (.sipush 250, 3) := by decide +kernel
theorem dX3_inputSize_7 : decode cX3_inputSize 7 = .ok (.iaload, 1) := by decide +kernel
theorem dX3_inputSize_8 : decode cX3_inputSize 8 = .ok (.ireturn, 1) := by decide +kernel
theorem dX3_outputSize_0 : decode cX3_outputSize 0 = .ok (.aload_n 0, 1) := by decide +kernel
theorem dX3_outputSize_1 : decode cX3_outputSize 1 = .ok (.getfield 7, 3) := by decide +kernel
theorem dX3_outputSize_4 : decode cX3_outputSize 4 = .ok (.sipush 267, 3) := by decide +kernel
theorem dX3_outputSize_7 : decode cX3_outputSize 7 = .ok (.iaload, 1) := by decide +kernel
theorem dX3_outputSize_8 : decode cX3_outputSize 8 = .ok (.ireturn, 1) := by decide +kernel
theorem dX3_outputAt_0 : decode cX3_outputAt 0 = .ok (.iload_n 1, 1) := by decide +kernel
theorem dX3_outputAt_1 : decode cX3_outputAt 1 = .ok (.iconst 0, 1) := by decide +kernel
theorem dX3_outputAt_2 : decode cX3_outputAt 2 = .ok (.aload_n 0, 1) := by decide +kernel
theorem dX3_outputAt_3 : decode cX3_outputAt 3 = .ok (.getfield 7, 3) := by decide +kernel
theorem dX3_outputAt_6 : decode cX3_outputAt 6 = .ok (.sipush 267, 3) := by decide +kernel
theorem dX3_outputAt_9 : decode cX3_outputAt 9 = .ok (.iaload, 1) := by decide +kernel
theorem dX3_outputAt_10 : decode cX3_outputAt 10 = .ok (.iconst 1, 1) := by decide +kernel
theorem dX3_outputAt_11 : decode cX3_outputAt 11 = .ok (.isub, 1) := by decide +kernel
theorem dX3_outputAt_12 : decode cX3_outputAt 12 = .ok (.invokestatic 44, 3) := by decide +kernel
theorem dX3_outputAt_15 : decode cX3_outputAt 15 = .ok (.ifCond .eq 16, 3) := by decide +kernel
theorem dX3_outputAt_18 : decode cX3_outputAt 18 = .ok (.aload_n 0, 1) := by decide +kernel
theorem dX3_outputAt_19 : decode cX3_outputAt 19 = .ok (.getfield 7, 3) := by decide +kernel
theorem dX3_outputAt_22 : decode cX3_outputAt 22 = .ok (.sipush 268, 3) := by decide +kernel
theorem dX3_outputAt_25 : decode cX3_outputAt 25 = .ok (.iload_n 1, 1) := by decide +kernel
theorem dX3_outputAt_26 : decode cX3_outputAt 26 = .ok (.iadd, 1) := by decide +kernel
theorem dX3_outputAt_27 : decode cX3_outputAt 27 = .ok (.iaload, 1) := by decide +kernel
theorem dX3_outputAt_28 : decode cX3_outputAt 28 = .ok (.goto 4, 3) := by decide +kernel
theorem dX3_outputAt_31 : decode cX3_outputAt 31 = .ok (.iconst 0, 1) := by decide +kernel
theorem dX3_outputAt_32 : decode cX3_outputAt 32 = .ok (.ireturn, 1) := by decide +kernel
theorem dX3_outputTotal_0 : decode cX3_outputTotal 0 = .ok (.aload_n 0, 1) := by decide +kernel
theorem dX3_outputTotal_1 : decode cX3_outputTotal 1 = .ok (.getfield 7, 3) := by decide +kernel
theorem dX3_outputTotal_4 : decode cX3_outputTotal 4 = .ok (.sipush 288, 3) := by decide +kernel
theorem dX3_outputTotal_7 : decode cX3_outputTotal 7 = .ok (.iaload, 1) := by decide +kernel
theorem dX3_outputTotal_8 : decode cX3_outputTotal 8 = .ok (.ireturn, 1) := by decide +kernel
theorem dX3_tickCount_0 : decode cX3_tickCount 0 = .ok (.aload_n 0, 1) := by decide +kernel
theorem dX3_tickCount_1 : decode cX3_tickCount 1 = .ok (.getfield 7, 3) := by decide +kernel
theorem dX3_tickCount_4 : decode cX3_tickCount 4 = .ok (.sipush 144, 3) := by decide +kernel
theorem dX3_tickCount_7 : decode cX3_tickCount 7 = .ok (.iaload, 1) := by decide +kernel
theorem dX3_tickCount_8 : decode cX3_tickCount 8 = .ok (.ireturn, 1) := by decide +kernel
theorem dX3_save_0 : decode cX3_save 0 = .ok (.iload_n 1, 1) := by decide +kernel
theorem dX3_save_1 : decode cX3_save 1 = .ok (.iconst 0, 1) := by decide +kernel
theorem dX3_save_2 : decode cX3_save 2 = .ok (.iconst 1, 1) := by decide +kernel
theorem dX3_save_3 : decode cX3_save 3 = .ok (.invokestatic 44, 3) := by decide +kernel
theorem dX3_save_6 : decode cX3_save 6 = .ok (.ifCond .ne 5, 3) := by decide +kernel
theorem dX3_save_9 : decode cX3_save 9 = .ok (.iconst (-1), 1) := by decide +kernel
theorem dX3_save_10 : decode cX3_save 10 = .ok (.ireturn, 1) := by decide +kernel
theorem dX3_save_11 : decode cX3_save 11 = .ok (.iconst 0, 1) := by decide +kernel
theorem dX3_save_12 : decode cX3_save 12 = .ok (.istore_n 2, 1) := by decide +kernel
theorem dX3_save_13 : decode cX3_save 13 = .ok (.iload_n 2, 1) := by decide +kernel
theorem dX3_save_14 : decode cX3_save 14 = .ok (.sipush 289, 3) := by decide +kernel
theorem dX3_save_17 : decode cX3_save 17 = .ok (.if_icmp .ge 27, 3) := by decide +kernel
theorem dX3_save_20 : decode cX3_save 20 = .ok (.aload_n 0, 1) := by decide +kernel
theorem dX3_save_21 : decode cX3_save 21 = .ok (.getfield 25, 3) := by decide +kernel
theorem dX3_save_24 : decode cX3_save 24 = .ok (.sipush 289, 3) := by decide +kernel
theorem dX3_save_27 : decode cX3_save 27 = .ok (.iload_n 1, 1) := by decide +kernel
theorem dX3_save_28 : decode cX3_save 28 = .ok (.imul, 1) := by decide +kernel
theorem dX3_save_29 : decode cX3_save 29 = .ok (.iload_n 2, 1) := by decide +kernel
theorem dX3_save_30 : decode cX3_save 30 = .ok (.iadd, 1) := by decide +kernel
theorem dX3_save_31 : decode cX3_save 31 = .ok (.aload_n 0, 1) := by decide +kernel
theorem dX3_save_32 : decode cX3_save 32 = .ok (.getfield 7, 3) := by decide +kernel
theorem dX3_save_35 : decode cX3_save 35 = .ok (.iload_n 2, 1) := by decide +kernel
theorem dX3_save_36 : decode cX3_save 36 = .ok (.iaload, 1) := by decide +kernel
theorem dX3_save_37 : decode cX3_save 37 = .ok (.iastore, 1) := by decide +kernel
theorem dX3_save_38 : decode cX3_save 38 = .ok (.iinc 2 1, 3) := by decide +kernel
theorem dX3_save_41 : decode cX3_save 41 = .ok (.goto (-28), 3) := by decide +kernel
theorem dX3_save_44 : decode cX3_save 44 = .ok (.aload_n 0, 1) := by decide +kernel
theorem dX3_save_45 : decode cX3_save 45 = .ok (.getfield 28, 3) := by decide +kernel
theorem dX3_save_48 : decode cX3_save 48 = .ok (.iload_n 1, 1) := by decide +kernel
theorem dX3_save_49 : decode cX3_save 49 = .ok (.iconst 1, 1) := by decide +kernel
theorem dX3_save_50 : decode cX3_save 50 = .ok (.bastore, 1) := by decide +kernel
theorem dX3_save_51 : decode cX3_save 51 = .ok (.aload_n 0, 1) := by decide +kernel
theorem dX3_save_52 : decode cX3_save 52 = .ok (.getfield 7, 3) := by decide +kernel
theorem dX3_save_55 : decode cX3_save 55 = .ok (.sipush 144, 3) := by decide +kernel
theorem dX3_save_58 : decode cX3_save 58 = .ok (.iaload, 1) := by decide +kernel
theorem dX3_save_59 : decode cX3_save 59 = .ok (.ireturn, 1) := by decide +kernel
theorem dX3_restore_0 : decode cX3_restore 0 = .ok (.iload_n 1, 1) := by decide +kernel
theorem dX3_restore_1 : decode cX3_restore 1 = .ok (.iconst 0, 1) := by decide +kernel
theorem dX3_restore_2 : decode cX3_restore 2 = .ok (.iconst 1, 1) := by decide +kernel
theorem dX3_restore_3 : decode cX3_restore 3 = .ok (.invokestatic 44, 3) := by decide +kernel
theorem dX3_restore_6 : decode cX3_restore 6 = .ok (.ifCond .ne 5, 3) := by decide +kernel
theorem dX3_restore_9 : decode cX3_restore 9 = .ok (.iconst (-1), 1) := by decide +kernel
theorem dX3_restore_10 : decode cX3_restore 10 = .ok (.ireturn, 1) := by decide +kernel
theorem dX3_restore_11 : decode cX3_restore 11 = .ok (.aload_n 0, 1) := by decide +kernel
theorem dX3_restore_12 : decode cX3_restore 12 = .ok (.getfield 28, 3) := by decide +kernel
theorem dX3_restore_15 : decode cX3_restore 15 = .ok (.iload_n 1, 1) := by decide +kernel
theorem dX3_restore_16 : decode cX3_restore 16 = .ok (.baload, 1) := by decide +kernel
theorem dX3_restore_17 : decode cX3_restore 17 = .ok (.ifCond .ne 6, 3) := by decide +kernel
theorem dX3_restore_20 : decode cX3_restore 20 = .ok (.bipush (-2), 2) := by decide +kernel
theorem dX3_restore_22 : decode cX3_restore 22 = .ok (.ireturn, 1) := by decide +kernel
theorem dX3_restore_23 : decode cX3_restore 23 = .ok (.iconst 0, 1) := by decide +kernel
theorem dX3_restore_24 : decode cX3_restore 24 = .ok (.istore_n 2, 1) := by decide +kernel
theorem dX3_restore_25 : decode cX3_restore 25 = .ok (.iload_n 2, 1) := by decide +kernel
theorem dX3_restore_26 : decode cX3_restore 26 = .ok (.sipush 289, 3) := by decide +kernel
theorem dX3_restore_29 : decode cX3_restore 29 = .ok (.if_icmp .ge 27, 3) := by decide +kernel
theorem dX3_restore_32 : decode cX3_restore 32 = .ok (.aload_n 0, 1) := by decide +kernel
theorem dX3_restore_33 : decode cX3_restore 33 = .ok (.getfield 7, 3) := by decide +kernel
theorem dX3_restore_36 : decode cX3_restore 36 = .ok (.iload_n 2, 1) := by decide +kernel
theorem dX3_restore_37 : decode cX3_restore 37 = .ok (.aload_n 0, 1) := by decide +kernel
theorem dX3_restore_38 : decode cX3_restore 38 = .ok (.getfield 25, 3) := by decide +kernel
theorem dX3_restore_41 : decode cX3_restore 41 = .ok (.sipush 289, 3) := by decide +kernel
theorem dX3_restore_44 : decode cX3_restore 44 = .ok (.iload_n 1, 1) := by decide +kernel
theorem dX3_restore_45 : decode cX3_restore 45 = .ok (.imul, 1) := by decide +kernel
theorem dX3_restore_46 : decode cX3_restore 46 = .ok (.iload_n 2, 1) := by decide +kernel
theorem dX3_restore_47 : decode cX3_restore 47 = .ok (.iadd, 1) := by decide +kernel
theorem dX3_restore_48 : decode cX3_restore 48 = .ok (.iaload, 1) := by decide +kernel
theorem dX3_restore_49 : decode cX3_restore 49 = .ok (.iastore, 1) := by decide +kernel
theorem dX3_restore_50 : decode cX3_restore 50 = .ok (.iinc 2 1, 3) := by decide +kernel
theorem dX3_restore_53 : decode cX3_restore 53 = .ok (.goto (-28), 3) := by decide +kernel
theorem dX3_restore_56 : decode cX3_restore 56 = .ok (.aload_n 0, 1) := by decide +kernel
theorem dX3_restore_57 : decode cX3_restore 57 = .ok (.iconst 0, 1) := by decide +kernel
theorem dX3_restore_58 : decode cX3_restore 58 = .ok (.putfield 48, 3) := by decide +kernel
theorem dX3_restore_61 : decode cX3_restore 61 = .ok (.aload_n 0, 1) := by decide +kernel
theorem dX3_restore_62 : decode cX3_restore 62 = .ok (.getfield 7, 3) := by decide +kernel
theorem dX3_restore_65 : decode cX3_restore 65 = .ok (.sipush 144, 3) := by decide +kernel
theorem dX3_restore_68 : decode cX3_restore 68 = .ok (.iaload, 1) := by decide +kernel
theorem dX3_restore_69 : decode cX3_restore 69 = .ok (.ireturn, 1) := by decide +kernel
theorem dX3_undoDepth_0 : decode cX3_undoDepth 0 = .ok (.aload_n 0, 1) := by decide +kernel
theorem dX3_undoDepth_1 : decode cX3_undoDepth 1 = .ok (.getfield 48, 3) := by decide +kernel
theorem dX3_undoDepth_4 : decode cX3_undoDepth 4 = .ok (.ireturn, 1) := by decide +kernel
end
section
/-- the words that every method takes along: those of the tables that stay good over calls -/
def zwd : List Cond := lw_tbl.filter goodWord
theorem zmem {w : Cond} (h : w ∈ lw_tbl) (hg : goodWord w = true) : w ∈ zwd := List.mem_filter.mpr ⟨h, hg⟩
theorem zgood {w : Cond} (h : w ∈ zwd) : (w.onTables && w.keeps) = true ∨ ∃ ty, w = .arrayClass ty := good_of_word (List.mem_filter.mp h).2
theorem ztbl {w : Cond} (h : w ∈ zwd) : w ∈ lw_tbl := (List.mem_filter.mp h).1
/-- a field's link: pool entry ix of own is slot j of class ci -/
def zfl (own : String) (ix ci j : Nat) : Prop := ∃ (C : String) (T : u_T) (N : Nat), vwCl[ci]? = some (C, T, N) ∧ j < N ∧ Cond.fieldLink own ix (T j).1 (T j).2.1 (T j).2.2.1 ∈ zwd
theorem kcX2_init : Cond.code yX2_init cX2_init 2 none ∈ zwd := zmem (List.mem_append_right _ (List.mem_append_left _ (List.mem_of_getElem? (i := 11) rfl))) rfl
theorem kcX1_init : Cond.code yX1_init cX1_init 2 none ∈ zwd := zmem (List.mem_append_right _ (List.mem_append_left _ (List.mem_of_getElem? (i := 19) rfl))) rfl
theorem kcX0_init : Cond.code yX0_init cX0_init 1 none ∈ zwd := zmem (List.mem_append_right _ (List.mem_append_left _ (List.mem_of_getElem? (i := 26) rfl))) rfl
theorem kcX2_append : Cond.code yX2_append cX2_append 2 (some .int) ∈ zwd := zmem (List.mem_append_right _ (List.mem_append_left _ (List.mem_of_getElem? (i := 148) rfl))) rfl
theorem kcX2_clearText : Cond.code yX2_clearText cX2_clearText 2 (some .int) ∈ zwd := zmem (List.mem_append_right _ (List.mem_append_left _ (List.mem_of_getElem? (i := 152) rfl))) rfl
theorem kcX2_load : Cond.code yX2_load cX2_load 2 (some .int) ∈ zwd := zmem (List.mem_append_right _ (List.mem_append_left _ (List.mem_of_getElem? (i := 156) rfl))) rfl
theorem kcX2_errorPosition : Cond.code yX2_errorPosition cX2_errorPosition 5 (some .int) ∈ zwd := zmem (List.mem_append_right _ (List.mem_append_left _ (List.mem_of_getElem? (i := 160) rfl))) rfl
theorem kcX2_isCode : Cond.code yX2_isCode cX2_isCode 1 (some .boolean) ∈ zwd := zmem (List.mem_append_right _ (List.mem_append_left _ (List.mem_of_getElem? (i := 163) rfl))) rfl
theorem kcX2_keepForUndo : Cond.code yX2_keepForUndo cX2_keepForUndo 3 none ∈ zwd := zmem (List.mem_append_right _ (List.mem_append_left _ (List.mem_of_getElem? (i := 167) rfl))) rfl
theorem kcX1_copyFrom : Cond.code yX1_copyFrom cX1_copyFrom 3 none ∈ zwd := zmem (List.mem_append_right _ (List.mem_append_left _ (List.mem_of_getElem? (i := 171) rfl))) rfl
theorem kcX0_copyFrom : Cond.code yX0_copyFrom cX0_copyFrom 2 none ∈ zwd := zmem (List.mem_append_right _ (List.mem_append_left _ (List.mem_of_getElem? (i := 178) rfl))) rfl
theorem kcX2_readProgram : Cond.code yX2_readProgram cX2_readProgram 5 none ∈ zwd := zmem (List.mem_append_right _ (List.mem_append_left _ (List.mem_of_getElem? (i := 183) rfl))) rfl
theorem kcX2_isCell : Cond.code yX2_isCell cX2_isCell 2 (some .boolean) ∈ zwd := zmem (List.mem_append_right _ (List.mem_append_left _ (List.mem_of_getElem? (i := 186) rfl))) rfl
theorem kcX1_beginRun : Cond.code yX1_beginRun cX1_beginRun 1 none ∈ zwd := zmem (List.mem_append_right _ (List.mem_append_left _ (List.mem_of_getElem? (i := 190) rfl))) rfl
theorem kcX0_reset : Cond.code yX0_reset cX0_reset 1 none ∈ zwd := zmem (List.mem_append_right _ (List.mem_append_left _ (List.mem_of_getElem? (i := 194) rfl))) rfl
theorem kcX1_countFilledCells : Cond.code yX1_countFilledCells cX1_countFilledCells 3 (some .int) ∈ zwd := zmem (List.mem_append_right _ (List.mem_append_left _ (List.mem_of_getElem? (i := 198) rfl))) rfl
theorem kcX2_rewind : Cond.code yX2_rewind cX2_rewind 2 (some .int) ∈ zwd := zmem (List.mem_append_right _ (List.mem_append_left _ (List.mem_of_getElem? (i := 202) rfl))) rfl
theorem kcX2_feed : Cond.code yX2_feed cX2_feed 2 (some .int) ∈ zwd := zmem (List.mem_append_right _ (List.mem_append_left _ (List.mem_of_getElem? (i := 206) rfl))) rfl
theorem kcX1_addInput : Cond.code yX1_addInput cX1_addInput 2 none ∈ zwd := zmem (List.mem_append_right _ (List.mem_append_left _ (List.mem_of_getElem? (i := 210) rfl))) rfl
theorem kcX2_poke : Cond.code yX2_poke cX2_poke 6 (some .int) ∈ zwd := zmem (List.mem_append_right _ (List.mem_append_left _ (List.mem_of_getElem? (i := 214) rfl))) rfl
theorem kcX2_tick : Cond.code yX2_tick cX2_tick 2 (some .int) ∈ zwd := zmem (List.mem_append_right _ (List.mem_append_left _ (List.mem_of_getElem? (i := 218) rfl))) rfl
theorem kcX2_advance : Cond.code yX2_advance cX2_advance 4 (some .int) ∈ zwd := zmem (List.mem_append_right _ (List.mem_append_left _ (List.mem_of_getElem? (i := 222) rfl))) rfl
theorem kcX2_isTickLimit : Cond.code yX2_isTickLimit cX2_isTickLimit 1 (some .boolean) ∈ zwd := zmem (List.mem_append_right _ (List.mem_append_left _ (List.mem_of_getElem? (i := 225) rfl))) rfl
theorem kcX1_isHalted : Cond.code yX1_isHalted cX1_isHalted 2 (some .boolean) ∈ zwd := zmem (List.mem_append_right _ (List.mem_append_left _ (List.mem_of_getElem? (i := 229) rfl))) rfl
theorem kcX1_performTick : Cond.code yX1_performTick cX1_performTick 3 none ∈ zwd := zmem (List.mem_append_right _ (List.mem_append_left _ (List.mem_of_getElem? (i := 233) rfl))) rfl
theorem kcX1_takeTurn : Cond.code yX1_takeTurn cX1_takeTurn 4 none ∈ zwd := zmem (List.mem_append_right _ (List.mem_append_left _ (List.mem_of_getElem? (i := 237) rfl))) rfl
theorem kcX0_cell : Cond.code yX0_cell cX0_cell 1 (some .int) ∈ zwd := zmem (List.mem_append_right _ (List.mem_append_right _ (List.mem_append_left _ (List.mem_of_getElem? (i := 1) rfl)))) rfl
theorem kcX1_fetchCell : Cond.code yX1_fetchCell cX1_fetchCell 4 none ∈ zwd := zmem (List.mem_append_right _ (List.mem_append_right _ (List.mem_append_left _ (List.mem_of_getElem? (i := 5) rfl)))) rfl
theorem kcX0_pop : Cond.code yX0_pop cX0_pop 2 (some .int) ∈ zwd := zmem (List.mem_append_right _ (List.mem_append_right _ (List.mem_append_left _ (List.mem_of_getElem? (i := 9) rfl)))) rfl
theorem kcX1_wrappedCell : Cond.code yX1_wrappedCell cX1_wrappedCell 2 (some .int) ∈ zwd := zmem (List.mem_append_right _ (List.mem_append_right _ (List.mem_append_left _ (List.mem_of_getElem? (i := 12) rfl)))) rfl
theorem kcJ9_floorMod_7cf53 : Cond.code yJ9_floorMod_7cf53 cJ9_floorMod_7cf53 3 (some .int) ∈ zwd := zmem (List.mem_append_right _ (List.mem_append_right _ (List.mem_append_left _ (List.mem_of_getElem? (i := 15) rfl)))) rfl
theorem kcX0_push : Cond.code yX0_push cX0_push 2 none ∈ zwd := zmem (List.mem_append_right _ (List.mem_append_right _ (List.mem_append_left _ (List.mem_of_getElem? (i := 19) rfl)))) rfl
theorem kcX1_storeCell : Cond.code yX1_storeCell cX1_storeCell 5 none ∈ zwd := zmem (List.mem_append_right _ (List.mem_append_right _ (List.mem_append_left _ (List.mem_of_getElem? (i := 23) rfl)))) rfl
theorem kcX1_addOutput : Cond.code yX1_addOutput cX1_addOutput 2 none ∈ zwd := zmem (List.mem_append_right _ (List.mem_append_right _ (List.mem_append_left _ (List.mem_of_getElem? (i := 28) rfl)))) rfl
theorem kcX1_takeInput : Cond.code yX1_takeInput cX1_takeInput 3 none ∈ zwd := zmem (List.mem_append_right _ (List.mem_append_right _ (List.mem_append_left _ (List.mem_of_getElem? (i := 32) rfl)))) rfl
theorem kcX0_turn : Cond.code yX0_turn cX0_turn 2 none ∈ zwd := zmem (List.mem_append_right _ (List.mem_append_right _ (List.mem_append_left _ (List.mem_of_getElem? (i := 36) rfl)))) rfl
theorem kcX1_split : Cond.code yX1_split cX1_split 5 none ∈ zwd := zmem (List.mem_append_right _ (List.mem_append_right _ (List.mem_append_left _ (List.mem_of_getElem? (i := 40) rfl)))) rfl
theorem kcX0_step : Cond.code yX0_step cX0_step 1 none ∈ zwd := zmem (List.mem_append_right _ (List.mem_append_right _ (List.mem_append_left _ (List.mem_of_getElem? (i := 44) rfl)))) rfl
theorem kcX0_perform : Cond.code yX0_perform cX0_perform 7 none ∈ zwd := zmem (List.mem_append_right _ (List.mem_append_right _ (List.mem_append_left _ (List.mem_of_getElem? (i := 48) rfl)))) rfl
theorem kcX0_combine : Cond.code yX0_combine cX0_combine 3 (some .int) ∈ zwd := zmem (List.mem_append_right _ (List.mem_append_right _ (List.mem_append_left _ (List.mem_of_getElem? (i := 53) rfl)))) rfl
theorem kcX0_openStack : Cond.code yX0_openStack cX0_openStack 3 none ∈ zwd := zmem (List.mem_append_right _ (List.mem_append_right _ (List.mem_append_left _ (List.mem_of_getElem? (i := 57) rfl)))) rfl
theorem kcX0_movable : Cond.code yX0_movable cX0_movable 3 (some .int) ∈ zwd := zmem (List.mem_append_right _ (List.mem_append_right _ (List.mem_append_left _ (List.mem_of_getElem? (i := 61) rfl)))) rfl
theorem kcX0_closeStack : Cond.code yX0_closeStack cX0_closeStack 4 none ∈ zwd := zmem (List.mem_append_right _ (List.mem_append_right _ (List.mem_append_left _ (List.mem_of_getElem? (i := 65) rfl)))) rfl
theorem kcJ9_min_7cf53 : Cond.code yJ9_min_7cf53 cJ9_min_7cf53 2 (some .int) ∈ zwd := zmem (List.mem_append_right _ (List.mem_append_right _ (List.mem_append_left _ (List.mem_of_getElem? (i := 69) rfl)))) rfl
theorem kcJ9_max_7cf53 : Cond.code yJ9_max_7cf53 cJ9_max_7cf53 2 (some .int) ∈ zwd := zmem (List.mem_append_right _ (List.mem_append_right _ (List.mem_append_left _ (List.mem_of_getElem? (i := 72) rfl)))) rfl
theorem kcX0_steer : Cond.code yX0_steer cX0_steer 2 none ∈ zwd := zmem (List.mem_append_right _ (List.mem_append_right _ (List.mem_append_left _ (List.mem_of_getElem? (i := 76) rfl)))) rfl
theorem kcX2_atBreakpoint : Cond.code yX2_atBreakpoint cX2_atBreakpoint 3 (some .boolean) ∈ zwd := zmem (List.mem_append_right _ (List.mem_append_right _ (List.mem_append_left _ (List.mem_of_getElem? (i := 81) rfl)))) rfl
theorem kcX2_run : Cond.code yX2_run cX2_run 2 (some .int) ∈ zwd := zmem (List.mem_append_right _ (List.mem_append_right _ (List.mem_append_left _ (List.mem_of_getElem? (i := 86) rfl)))) rfl
theorem kcX2_setBreakpoint : Cond.code yX2_setBreakpoint cX2_setBreakpoint 6 (some .int) ∈ zwd := zmem (List.mem_append_right _ (List.mem_append_right _ (List.mem_append_left _ (List.mem_of_getElem? (i := 90) rfl)))) rfl
theorem kcX2_undo : Cond.code yX2_undo cX2_undo 1 (some .int) ∈ zwd := zmem (List.mem_append_right _ (List.mem_append_right _ (List.mem_append_left _ (List.mem_of_getElem? (i := 94) rfl)))) rfl
theorem kcX2_ticksToHalt : Cond.code yX2_ticksToHalt cX2_ticksToHalt 3 (some .int) ∈ zwd := zmem (List.mem_append_right _ (List.mem_append_right _ (List.mem_append_left _ (List.mem_of_getElem? (i := 98) rfl)))) rfl
theorem kcX2_cycleStart : Cond.code yX2_cycleStart cX2_cycleStart 3 (some .int) ∈ zwd := zmem (List.mem_append_right _ (List.mem_append_right _ (List.mem_append_left _ (List.mem_of_getElem? (i := 102) rfl)))) rfl
theorem kcX2_findPeriod : Cond.code yX2_findPeriod cX2_findPeriod 3 (some .int) ∈ zwd := zmem (List.mem_append_right _ (List.mem_append_right _ (List.mem_append_left _ (List.mem_of_getElem? (i := 106) rfl)))) rfl
theorem kcX1_hasConfigurationOf : Cond.code yX1_hasConfigurationOf cX1_hasConfigurationOf 3 (some .boolean) ∈ zwd := zmem (List.mem_append_right _ (List.mem_append_right _ (List.mem_append_left _ (List.mem_of_getElem? (i := 110) rfl)))) rfl
theorem kcX0_isLike : Cond.code yX0_isLike cX0_isLike 3 (some .boolean) ∈ zwd := zmem (List.mem_append_right _ (List.mem_append_right _ (List.mem_append_left _ (List.mem_of_getElem? (i := 114) rfl)))) rfl
theorem kcX2_findCycleEntry : Cond.code yX2_findCycleEntry cX2_findCycleEntry 4 (some .int) ∈ zwd := zmem (List.mem_append_right _ (List.mem_append_right _ (List.mem_append_left _ (List.mem_of_getElem? (i := 118) rfl)))) rfl
theorem kcX2_cycleLength : Cond.code yX2_cycleLength cX2_cycleLength 3 (some .int) ∈ zwd := zmem (List.mem_append_right _ (List.mem_append_right _ (List.mem_append_left _ (List.mem_of_getElem? (i := 122) rfl)))) rfl
theorem kcX2_cellAt : Cond.code yX2_cellAt cX2_cellAt 3 (some .int) ∈ zwd := zmem (List.mem_append_right _ (List.mem_append_right _ (List.mem_append_left _ (List.mem_of_getElem? (i := 126) rfl)))) rfl
theorem kcX2_changedCells : Cond.code yX2_changedCells cX2_changedCells 3 (some .int) ∈ zwd := zmem (List.mem_append_right _ (List.mem_append_right _ (List.mem_append_left _ (List.mem_of_getElem? (i := 130) rfl)))) rfl
theorem kcX2_pointerCount : Cond.code yX2_pointerCount cX2_pointerCount 1 (some .int) ∈ zwd := zmem (List.mem_append_right _ (List.mem_append_right _ (List.mem_append_left _ (List.mem_of_getElem? (i := 134) rfl)))) rfl
theorem kcX2_pointerAt : Cond.code yX2_pointerAt cX2_pointerAt 2 (some .int) ∈ zwd := zmem (List.mem_append_right _ (List.mem_append_right _ (List.mem_append_left _ (List.mem_of_getElem? (i := 138) rfl)))) rfl
theorem kcX2_isPointer : Cond.code yX2_isPointer cX2_isPointer 2 (some .boolean) ∈ zwd := zmem (List.mem_append_right _ (List.mem_append_right _ (List.mem_append_left _ (List.mem_of_getElem? (i := 142) rfl)))) rfl
theorem kcX2_position : Cond.code yX2_position cX2_position 2 (some .int) ∈ zwd := zmem (List.mem_append_right _ (List.mem_append_right _ (List.mem_append_left _ (List.mem_of_getElem? (i := 146) rfl)))) rfl
theorem kcX2_direction : Cond.code yX2_direction cX2_direction 2 (some .int) ∈ zwd := zmem (List.mem_append_right _ (List.mem_append_right _ (List.mem_append_left _ (List.mem_of_getElem? (i := 150) rfl)))) rfl
theorem kcX2_status : Cond.code yX2_status cX2_status 2 (some .int) ∈ zwd := zmem (List.mem_append_right _ (List.mem_append_right _ (List.mem_append_left _ (List.mem_of_getElem? (i := 154) rfl)))) rfl
theorem kcX2_sleep : Cond.code yX2_sleep cX2_sleep 2 (some .int) ∈ zwd := zmem (List.mem_append_right _ (List.mem_append_right _ (List.mem_append_left _ (List.mem_of_getElem? (i := 158) rfl)))) rfl
theorem kcX2_stackCount : Cond.code yX2_stackCount cX2_stackCount 2 (some .int) ∈ zwd := zmem (List.mem_append_right _ (List.mem_append_right _ (List.mem_append_left _ (List.mem_of_getElem? (i := 162) rfl)))) rfl
theorem kcX2_stackSize : Cond.code yX2_stackSize cX2_stackSize 3 (some .int) ∈ zwd := zmem (List.mem_append_right _ (List.mem_append_right _ (List.mem_append_left _ (List.mem_of_getElem? (i := 166) rfl)))) rfl
theorem kcX2_isStack : Cond.code yX2_isStack cX2_isStack 3 (some .boolean) ∈ zwd := zmem (List.mem_append_right _ (List.mem_append_right _ (List.mem_append_left _ (List.mem_of_getElem? (i := 170) rfl)))) rfl
theorem kcX2_valueAt : Cond.code yX2_valueAt cX2_valueAt 5 (some .int) ∈ zwd := zmem (List.mem_append_right _ (List.mem_append_right _ (List.mem_append_left _ (List.mem_of_getElem? (i := 174) rfl)))) rfl
theorem kcX0_stackBegin : Cond.code yX0_stackBegin cX0_stackBegin 4 (some .int) ∈ zwd := zmem (List.mem_append_right _ (List.mem_append_right _ (List.mem_append_left _ (List.mem_of_getElem? (i := 178) rfl)))) rfl
theorem kcX2_inputSize : Cond.code yX2_inputSize cX2_inputSize 1 (some .int) ∈ zwd := zmem (List.mem_append_right _ (List.mem_append_right _ (List.mem_append_left _ (List.mem_of_getElem? (i := 182) rfl)))) rfl
theorem kcX2_outputSize : Cond.code yX2_outputSize cX2_outputSize 1 (some .int) ∈ zwd := zmem (List.mem_append_right _ (List.mem_append_right _ (List.mem_append_left _ (List.mem_of_getElem? (i := 186) rfl)))) rfl
theorem kcX2_outputAt : Cond.code yX2_outputAt cX2_outputAt 2 (some .int) ∈ zwd := zmem (List.mem_append_right _ (List.mem_append_right _ (List.mem_append_left _ (List.mem_of_getElem? (i := 190) rfl)))) rfl
theorem kcX2_outputTotal : Cond.code yX2_outputTotal cX2_outputTotal 1 (some .int) ∈ zwd := zmem (List.mem_append_right _ (List.mem_append_right _ (List.mem_append_left _ (List.mem_of_getElem? (i := 194) rfl)))) rfl
theorem kcX2_tickCount : Cond.code yX2_tickCount cX2_tickCount 1 (some .int) ∈ zwd := zmem (List.mem_append_right _ (List.mem_append_right _ (List.mem_append_left _ (List.mem_of_getElem? (i := 198) rfl)))) rfl
theorem kcX2_save : Cond.code yX2_save cX2_save 2 (some .int) ∈ zwd := zmem (List.mem_append_right _ (List.mem_append_right _ (List.mem_append_left _ (List.mem_of_getElem? (i := 202) rfl)))) rfl
theorem kcX2_restore : Cond.code yX2_restore cX2_restore 2 (some .int) ∈ zwd := zmem (List.mem_append_right _ (List.mem_append_right _ (List.mem_append_left _ (List.mem_of_getElem? (i := 206) rfl)))) rfl
theorem kcX2_undoDepth : Cond.code yX2_undoDepth cX2_undoDepth 1 (some .int) ∈ zwd := zmem (List.mem_append_right _ (List.mem_append_right _ (List.mem_append_left _ (List.mem_of_getElem? (i := 210) rfl)))) rfl
theorem kcX3_init : Cond.code yX3_init cX3_init 2 none ∈ zwd := zmem (List.mem_append_right _ (List.mem_append_right _ (List.mem_append_left _ (List.mem_of_getElem? (i := 215) rfl)))) rfl
theorem kcX3_begin : Cond.code yX3_begin cX3_begin 2 none ∈ zwd := zmem (List.mem_append_right _ (List.mem_append_right _ (List.mem_append_left _ (List.mem_of_getElem? (i := 220) rfl)))) rfl
theorem kcX3_undo : Cond.code yX3_undo cX3_undo 2 (some .int) ∈ zwd := zmem (List.mem_append_right _ (List.mem_append_right _ (List.mem_append_right _ (List.mem_append_left _ (List.mem_of_getElem? (i := 27) rfl))))) rfl
theorem kcX3_append : Cond.code yX3_append cX3_append 2 (some .int) ∈ zwd := zmem (List.mem_append_right _ (List.mem_append_right _ (List.mem_append_right _ (List.mem_append_left _ (List.mem_of_getElem? (i := 31) rfl))))) rfl
theorem kcX3_in : Cond.code yX3_in cX3_in 3 (some .boolean) ∈ zwd := zmem (List.mem_append_right _ (List.mem_append_right _ (List.mem_append_right _ (List.mem_append_left _ (List.mem_of_getElem? (i := 34) rfl))))) rfl
theorem kcX3_clearText : Cond.code yX3_clearText cX3_clearText 2 (some .int) ∈ zwd := zmem (List.mem_append_right _ (List.mem_append_right _ (List.mem_append_right _ (List.mem_append_left _ (List.mem_of_getElem? (i := 38) rfl))))) rfl
theorem kcX3_load : Cond.code yX3_load cX3_load 6 (some .int) ∈ zwd := zmem (List.mem_append_right _ (List.mem_append_right _ (List.mem_append_right _ (List.mem_append_left _ (List.mem_of_getElem? (i := 42) rfl))))) rfl
theorem kcX3_errorPosition : Cond.code yX3_errorPosition cX3_errorPosition 6 (some .int) ∈ zwd := zmem (List.mem_append_right _ (List.mem_append_right _ (List.mem_append_right _ (List.mem_append_left _ (List.mem_of_getElem? (i := 46) rfl))))) rfl
theorem kcX3_remember : Cond.code yX3_remember cX3_remember 2 none ∈ zwd := zmem (List.mem_append_right _ (List.mem_append_right _ (List.mem_append_right _ (List.mem_append_left _ (List.mem_of_getElem? (i := 50) rfl))))) rfl
theorem kcX3_saveBefore : Cond.code yX3_saveBefore cX3_saveBefore 2 none ∈ zwd := zmem (List.mem_append_right _ (List.mem_append_right _ (List.mem_append_right _ (List.mem_append_left _ (List.mem_of_getElem? (i := 54) rfl))))) rfl
theorem kcX3_rewind : Cond.code yX3_rewind cX3_rewind 2 (some .int) ∈ zwd := zmem (List.mem_append_right _ (List.mem_append_right _ (List.mem_append_right _ (List.mem_append_left _ (List.mem_of_getElem? (i := 58) rfl))))) rfl
theorem kcX3_feed : Cond.code yX3_feed cX3_feed 2 (some .int) ∈ zwd := zmem (List.mem_append_right _ (List.mem_append_right _ (List.mem_append_right _ (List.mem_append_left _ (List.mem_of_getElem? (i := 62) rfl))))) rfl
theorem kcX3_poke : Cond.code yX3_poke cX3_poke 6 (some .int) ∈ zwd := zmem (List.mem_append_right _ (List.mem_append_right _ (List.mem_append_right _ (List.mem_append_left _ (List.mem_of_getElem? (i := 66) rfl))))) rfl
theorem kcX3_isCell : Cond.code yX3_isCell cX3_isCell 2 (some .boolean) ∈ zwd := zmem (List.mem_append_right _ (List.mem_append_right _ (List.mem_append_right _ (List.mem_append_left _ (List.mem_of_getElem? (i := 69) rfl))))) rfl
theorem kcX3_tick : Cond.code yX3_tick cX3_tick 2 (some .int) ∈ zwd := zmem (List.mem_append_right _ (List.mem_append_right _ (List.mem_append_right _ (List.mem_append_left _ (List.mem_of_getElem? (i := 73) rfl))))) rfl
theorem kcX3_perform : Cond.code yX3_perform cX3_perform 5 (some .int) ∈ zwd := zmem (List.mem_append_right _ (List.mem_append_right _ (List.mem_append_right _ (List.mem_append_left _ (List.mem_of_getElem? (i := 77) rfl))))) rfl
theorem kcX3_isHalted : Cond.code yX3_isHalted cX3_isHalted 3 (some .boolean) ∈ zwd := zmem (List.mem_append_right _ (List.mem_append_right _ (List.mem_append_right _ (List.mem_append_left _ (List.mem_of_getElem? (i := 81) rfl))))) rfl
theorem kcX3_of : Cond.code yX3_of cX3_of 3 (some .int) ∈ zwd := zmem (List.mem_append_right _ (List.mem_append_right _ (List.mem_append_right _ (List.mem_append_left _ (List.mem_of_getElem? (i := 85) rfl))))) rfl
theorem kcX3_step : Cond.code yX3_step cX3_step 3 none ∈ zwd := zmem (List.mem_append_right _ (List.mem_append_right _ (List.mem_append_right _ (List.mem_append_left _ (List.mem_of_getElem? (i := 89) rfl))))) rfl
theorem kcX3_takeTurn : Cond.code yX3_takeTurn cX3_takeTurn 2 none ∈ zwd := zmem (List.mem_append_right _ (List.mem_append_right _ (List.mem_append_right _ (List.mem_append_left _ (List.mem_of_getElem? (i := 93) rfl))))) rfl
theorem kcX3_put : Cond.code yX3_put cX3_put 4 none ∈ zwd := zmem (List.mem_append_right _ (List.mem_append_right _ (List.mem_append_right _ (List.mem_append_left _ (List.mem_of_getElem? (i := 97) rfl))))) rfl
theorem kcX3_execute : Cond.code yX3_execute cX3_execute 5 none ∈ zwd := zmem (List.mem_append_right _ (List.mem_append_right _ (List.mem_append_right _ (List.mem_append_left _ (List.mem_of_getElem? (i := 101) rfl))))) rfl
theorem kcX3_push : Cond.code yX3_push cX3_push 4 none ∈ zwd := zmem (List.mem_append_right _ (List.mem_append_right _ (List.mem_append_right _ (List.mem_append_left _ (List.mem_of_getElem? (i := 105) rfl))))) rfl
theorem kcX3_heldBy : Cond.code yX3_heldBy cX3_heldBy 2 (some .int) ∈ zwd := zmem (List.mem_append_right _ (List.mem_append_right _ (List.mem_append_right _ (List.mem_append_left _ (List.mem_of_getElem? (i := 109) rfl))))) rfl
theorem kcX3_current : Cond.code yX3_current cX3_current 2 (some .int) ∈ zwd := zmem (List.mem_append_right _ (List.mem_append_right _ (List.mem_append_right _ (List.mem_append_left _ (List.mem_of_getElem? (i := 113) rfl))))) rfl
theorem kcX3_pop : Cond.code yX3_pop cX3_pop 5 (some .int) ∈ zwd := zmem (List.mem_append_right _ (List.mem_append_right _ (List.mem_append_right _ (List.mem_append_left _ (List.mem_of_getElem? (i := 117) rfl))))) rfl
theorem kcX3_operate : Cond.code yX3_operate cX3_operate 3 (some .int) ∈ zwd := zmem (List.mem_append_right _ (List.mem_append_right _ (List.mem_append_right _ (List.mem_append_left _ (List.mem_of_getElem? (i := 120) rfl))))) rfl
theorem kcX3_duplicate : Cond.code yX3_duplicate cX3_duplicate 3 none ∈ zwd := zmem (List.mem_append_right _ (List.mem_append_right _ (List.mem_append_right _ (List.mem_append_left _ (List.mem_of_getElem? (i := 124) rfl))))) rfl
theorem kcX3_swapTop : Cond.code yX3_swapTop cX3_swapTop 4 none ∈ zwd := zmem (List.mem_append_right _ (List.mem_append_right _ (List.mem_append_right _ (List.mem_append_left _ (List.mem_of_getElem? (i := 128) rfl))))) rfl
theorem kcX3_turn : Cond.code yX3_turn cX3_turn 3 none ∈ zwd := zmem (List.mem_append_right _ (List.mem_append_right _ (List.mem_append_right _ (List.mem_append_left _ (List.mem_of_getElem? (i := 132) rfl))))) rfl
theorem kcX3_move : Cond.code yX3_move cX3_move 5 none ∈ zwd := zmem (List.mem_append_right _ (List.mem_append_right _ (List.mem_append_right _ (List.mem_append_left _ (List.mem_of_getElem? (i := 136) rfl))))) rfl
theorem kcX3_fetch : Cond.code yX3_fetch cX3_fetch 4 none ∈ zwd := zmem (List.mem_append_right _ (List.mem_append_right _ (List.mem_append_right _ (List.mem_append_left _ (List.mem_of_getElem? (i := 140) rfl))))) rfl
theorem kcX3_cell : Cond.code yX3_cell cX3_cell 2 (some .int) ∈ zwd := zmem (List.mem_append_right _ (List.mem_append_right _ (List.mem_append_right _ (List.mem_append_left _ (List.mem_of_getElem? (i := 143) rfl))))) rfl
theorem kcX3_modulo : Cond.code yX3_modulo cX3_modulo 3 (some .int) ∈ zwd := zmem (List.mem_append_right _ (List.mem_append_right _ (List.mem_append_right _ (List.mem_append_left _ (List.mem_of_getElem? (i := 146) rfl))))) rfl
theorem kcX3_store : Cond.code yX3_store cX3_store 5 none ∈ zwd := zmem (List.mem_append_right _ (List.mem_append_right _ (List.mem_append_right _ (List.mem_append_left _ (List.mem_of_getElem? (i := 150) rfl))))) rfl
theorem kcX3_output : Cond.code yX3_output cX3_output 3 none ∈ zwd := zmem (List.mem_append_right _ (List.mem_append_right _ (List.mem_append_right _ (List.mem_append_left _ (List.mem_of_getElem? (i := 154) rfl))))) rfl
theorem kcX3_input : Cond.code yX3_input cX3_input 4 none ∈ zwd := zmem (List.mem_append_right _ (List.mem_append_right _ (List.mem_append_right _ (List.mem_append_left _ (List.mem_of_getElem? (i := 158) rfl))))) rfl
theorem kcX3_clamp : Cond.code yX3_clamp cX3_clamp 2 (some .int) ∈ zwd := zmem (List.mem_append_right _ (List.mem_append_right _ (List.mem_append_right _ (List.mem_append_left _ (List.mem_of_getElem? (i := 161) rfl))))) rfl
theorem kcX3_split : Cond.code yX3_split cX3_split 4 none ∈ zwd := zmem (List.mem_append_right _ (List.mem_append_right _ (List.mem_append_right _ (List.mem_append_left _ (List.mem_of_getElem? (i := 165) rfl))))) rfl
theorem kcX3_openStack : Cond.code yX3_openStack cX3_openStack 5 none ∈ zwd := zmem (List.mem_append_right _ (List.mem_append_right _ (List.mem_append_right _ (List.mem_append_left _ (List.mem_of_getElem? (i := 169) rfl))))) rfl
theorem kcX3_closeStack : Cond.code yX3_closeStack cX3_closeStack 8 none ∈ zwd := zmem (List.mem_append_right _ (List.mem_append_right _ (List.mem_append_right _ (List.mem_append_left _ (List.mem_of_getElem? (i := 173) rfl))))) rfl
theorem kcX3_isAtBreakpoint : Cond.code yX3_isAtBreakpoint cX3_isAtBreakpoint 3 (some .boolean) ∈ zwd := zmem (List.mem_append_right _ (List.mem_append_right _ (List.mem_append_right _ (List.mem_append_left _ (List.mem_of_getElem? (i := 177) rfl))))) rfl
theorem kcX3_run : Cond.code yX3_run cX3_run 2 (some .int) ∈ zwd := zmem (List.mem_append_right _ (List.mem_append_right _ (List.mem_append_right _ (List.mem_append_left _ (List.mem_of_getElem? (i := 181) rfl))))) rfl
theorem kcX3_setBreakpoint : Cond.code yX3_setBreakpoint cX3_setBreakpoint 5 (some .int) ∈ zwd := zmem (List.mem_append_right _ (List.mem_append_right _ (List.mem_append_right _ (List.mem_append_left _ (List.mem_of_getElem? (i := 185) rfl))))) rfl
theorem kcX3_breakpoints : Cond.code yX3_breakpoints cX3_breakpoints 3 (some .int) ∈ zwd := zmem (List.mem_append_right _ (List.mem_append_right _ (List.mem_append_right _ (List.mem_append_left _ (List.mem_of_getElem? (i := 189) rfl))))) rfl
theorem kcX3_ticksToHalt : Cond.code yX3_ticksToHalt cX3_ticksToHalt 2 (some .int) ∈ zwd := zmem (List.mem_append_right _ (List.mem_append_right _ (List.mem_append_right _ (List.mem_append_left _ (List.mem_of_getElem? (i := 193) rfl))))) rfl
theorem kcX3_halts : Cond.code yX3_halts cX3_halts 4 (some .int) ∈ zwd := zmem (List.mem_append_right _ (List.mem_append_right _ (List.mem_append_right _ (List.mem_append_left _ (List.mem_of_getElem? (i := 197) rfl))))) rfl
theorem kcX3_setAside : Cond.code yX3_setAside cX3_setAside 2 none ∈ zwd := zmem (List.mem_append_right _ (List.mem_append_right _ (List.mem_append_right _ (List.mem_append_left _ (List.mem_of_getElem? (i := 201) rfl))))) rfl
theorem kcX3_takeBack : Cond.code yX3_takeBack cX3_takeBack 2 none ∈ zwd := zmem (List.mem_append_right _ (List.mem_append_right _ (List.mem_append_right _ (List.mem_append_left _ (List.mem_of_getElem? (i := 205) rfl))))) rfl
theorem kcX3_cycleStart : Cond.code yX3_cycleStart cX3_cycleStart 2 (some .int) ∈ zwd := zmem (List.mem_append_right _ (List.mem_append_right _ (List.mem_append_right _ (List.mem_append_left _ (List.mem_of_getElem? (i := 209) rfl))))) rfl
theorem kcX3_findCycle : Cond.code yX3_findCycle cX3_findCycle 4 none ∈ zwd := zmem (List.mem_append_right _ (List.mem_append_right _ (List.mem_append_right _ (List.mem_append_left _ (List.mem_of_getElem? (i := 213) rfl))))) rfl
theorem kcX3_isSameAsFirst : Cond.code yX3_isSameAsFirst cX3_isSameAsFirst 3 (some .boolean) ∈ zwd := zmem (List.mem_append_right _ (List.mem_append_right _ (List.mem_append_right _ (List.mem_append_left _ (List.mem_of_getElem? (i := 217) rfl))))) rfl
theorem kcX3_cycleLength : Cond.code yX3_cycleLength cX3_cycleLength 2 (some .int) ∈ zwd := zmem (List.mem_append_right _ (List.mem_append_right _ (List.mem_append_right _ (List.mem_append_left _ (List.mem_of_getElem? (i := 221) rfl))))) rfl
theorem kcX3_cellAt : Cond.code yX3_cellAt cX3_cellAt 3 (some .int) ∈ zwd := zmem (List.mem_append_right _ (List.mem_append_right _ (List.mem_append_right _ (List.mem_append_left _ (List.mem_of_getElem? (i := 225) rfl))))) rfl
theorem kcX3_changedCells : Cond.code yX3_changedCells cX3_changedCells 3 (some .int) ∈ zwd := zmem (List.mem_append_right _ (List.mem_append_right _ (List.mem_append_right _ (List.mem_append_left _ (List.mem_of_getElem? (i := 229) rfl))))) rfl
theorem kcX3_pointerCount : Cond.code yX3_pointerCount cX3_pointerCount 1 (some .int) ∈ zwd := zmem (List.mem_append_right _ (List.mem_append_right _ (List.mem_append_right _ (List.mem_append_left _ (List.mem_of_getElem? (i := 233) rfl))))) rfl
theorem kcX3_pointerAt : Cond.code yX3_pointerAt cX3_pointerAt 2 (some .int) ∈ zwd := zmem (List.mem_append_right _ (List.mem_append_right _ (List.mem_append_right _ (List.mem_append_left _ (List.mem_of_getElem? (i := 237) rfl))))) rfl
theorem kcX3_isPointer : Cond.code yX3_isPointer cX3_isPointer 2 (some .boolean) ∈ zwd := zmem (List.mem_append_right _ (List.mem_append_right _ (List.mem_append_right _ (List.mem_append_right _ (List.mem_of_getElem? (i := 1) rfl))))) rfl
theorem kcX3_position : Cond.code yX3_position cX3_position 2 (some .int) ∈ zwd := zmem (List.mem_append_right _ (List.mem_append_right _ (List.mem_append_right _ (List.mem_append_right _ (List.mem_of_getElem? (i := 5) rfl))))) rfl
theorem kcX3_direction : Cond.code yX3_direction cX3_direction 2 (some .int) ∈ zwd := zmem (List.mem_append_right _ (List.mem_append_right _ (List.mem_append_right _ (List.mem_append_right _ (List.mem_of_getElem? (i := 9) rfl))))) rfl
theorem kcX3_status : Cond.code yX3_status cX3_status 2 (some .int) ∈ zwd := zmem (List.mem_append_right _ (List.mem_append_right _ (List.mem_append_right _ (List.mem_append_right _ (List.mem_of_getElem? (i := 13) rfl))))) rfl
theorem kcX3_sleep : Cond.code yX3_sleep cX3_sleep 2 (some .int) ∈ zwd := zmem (List.mem_append_right _ (List.mem_append_right _ (List.mem_append_right _ (List.mem_append_right _ (List.mem_of_getElem? (i := 17) rfl))))) rfl
theorem kcX3_stackCount : Cond.code yX3_stackCount cX3_stackCount 2 (some .int) ∈ zwd := zmem (List.mem_append_right _ (List.mem_append_right _ (List.mem_append_right _ (List.mem_append_right _ (List.mem_of_getElem? (i := 21) rfl))))) rfl
theorem kcX3_stackSize : Cond.code yX3_stackSize cX3_stackSize 3 (some .int) ∈ zwd := zmem (List.mem_append_right _ (List.mem_append_right _ (List.mem_append_right _ (List.mem_append_right _ (List.mem_of_getElem? (i := 25) rfl))))) rfl
theorem kcX3_isStack : Cond.code yX3_isStack cX3_isStack 3 (some .boolean) ∈ zwd := zmem (List.mem_append_right _ (List.mem_append_right _ (List.mem_append_right _ (List.mem_append_right _ (List.mem_of_getElem? (i := 29) rfl))))) rfl
theorem kcX3_valueAt : Cond.code yX3_valueAt cX3_valueAt 6 (some .int) ∈ zwd := zmem (List.mem_append_right _ (List.mem_append_right _ (List.mem_append_right _ (List.mem_append_right _ (List.mem_of_getElem? (i := 33) rfl))))) rfl
theorem kcX3_inputSize : Cond.code yX3_inputSize cX3_inputSize 1 (some .int) ∈ zwd := zmem (List.mem_append_right _ (List.mem_append_right _ (List.mem_append_right _ (List.mem_append_right _ (List.mem_of_getElem? (i := 37) rfl))))) rfl
theorem kcX3_outputSize : Cond.code yX3_outputSize cX3_outputSize 1 (some .int) ∈ zwd := zmem (List.mem_append_right _ (List.mem_append_right _ (List.mem_append_right _ (List.mem_append_right _ (List.mem_of_getElem? (i := 41) rfl))))) rfl
theorem kcX3_outputAt : Cond.code yX3_outputAt cX3_outputAt 2 (some .int) ∈ zwd := zmem (List.mem_append_right _ (List.mem_append_right _ (List.mem_append_right _ (List.mem_append_right _ (List.mem_of_getElem? (i := 45) rfl))))) rfl
theorem kcX3_outputTotal : Cond.code yX3_outputTotal cX3_outputTotal 1 (some .int) ∈ zwd := zmem (List.mem_append_right _ (List.mem_append_right _ (List.mem_append_right _ (List.mem_append_right _ (List.mem_of_getElem? (i := 49) rfl))))) rfl
theorem kcX3_tickCount : Cond.code yX3_tickCount cX3_tickCount 1 (some .int) ∈ zwd := zmem (List.mem_append_right _ (List.mem_append_right _ (List.mem_append_right _ (List.mem_append_right _ (List.mem_of_getElem? (i := 53) rfl))))) rfl
theorem kcX3_save : Cond.code yX3_save cX3_save 3 (some .int) ∈ zwd := zmem (List.mem_append_right _ (List.mem_append_right _ (List.mem_append_right _ (List.mem_append_right _ (List.mem_of_getElem? (i := 57) rfl))))) rfl
theorem kcX3_restore : Cond.code yX3_restore cX3_restore 3 (some .int) ∈ zwd := zmem (List.mem_append_right _ (List.mem_append_right _ (List.mem_append_right _ (List.mem_append_right _ (List.mem_of_getElem? (i := 61) rfl))))) rfl
theorem kcX3_undoDepth : Cond.code yX3_undoDepth cX3_undoDepth 1 (some .int) ∈ zwd := zmem (List.mem_append_right _ (List.mem_append_right _ (List.mem_append_right _ (List.mem_append_right _ (List.mem_of_getElem? (i := 65) rfl))))) rfl
theorem kiL : Cond.initialized RL ∈ zwd := zmem (List.mem_append_right _ (List.mem_append_left _ (List.mem_of_getElem? (i := 0) rfl))) rfl
theorem kiX2 : Cond.initialized RX2 ∈ zwd := zmem (List.mem_append_right _ (List.mem_append_left _ (List.mem_of_getElem? (i := 1) rfl))) rfl
theorem kiX1 : Cond.initialized RX1 ∈ zwd := zmem (List.mem_append_right _ (List.mem_append_left _ (List.mem_of_getElem? (i := 2) rfl))) rfl
theorem kiX0 : Cond.initialized RX0 ∈ zwd := zmem (List.mem_append_right _ (List.mem_append_left _ (List.mem_of_getElem? (i := 3) rfl))) rfl
theorem kiX3 : Cond.initialized RX3 ∈ zwd := zmem (List.mem_append_right _ (List.mem_append_left _ (List.mem_of_getElem? (i := 4) rfl))) rfl
theorem kiJ10 : Cond.initialized RJ10 ∈ zwd := zmem (List.mem_append_right _ (List.mem_append_left _ (List.mem_of_getElem? (i := 5) rfl))) rfl
theorem kiJ9 : Cond.initialized RJ9 ∈ zwd := zmem (List.mem_append_right _ (List.mem_append_left _ (List.mem_of_getElem? (i := 6) rfl))) rfl
theorem knX2_init : Cond.instanceMethod yX2_init ∈ zwd := zmem (List.mem_append_right _ (List.mem_append_left _ (List.mem_of_getElem? (i := 10) rfl))) rfl
theorem knX1_init : Cond.instanceMethod yX1_init ∈ zwd := zmem (List.mem_append_right _ (List.mem_append_left _ (List.mem_of_getElem? (i := 18) rfl))) rfl
theorem knX0_init : Cond.instanceMethod yX0_init ∈ zwd := zmem (List.mem_append_right _ (List.mem_append_left _ (List.mem_of_getElem? (i := 25) rfl))) rfl
theorem knX2_append : Cond.instanceMethod yX2_append ∈ zwd := zmem (List.mem_append_right _ (List.mem_append_left _ (List.mem_of_getElem? (i := 146) rfl))) rfl
theorem ksX2_append : Cond.selects RX2 yX2_append yX2_append ∈ zwd := zmem (List.mem_append_right _ (List.mem_append_left _ (List.mem_of_getElem? (i := 147) rfl))) rfl
theorem knX2_clearText : Cond.instanceMethod yX2_clearText ∈ zwd := zmem (List.mem_append_right _ (List.mem_append_left _ (List.mem_of_getElem? (i := 150) rfl))) rfl
theorem ksX2_clearText : Cond.selects RX2 yX2_clearText yX2_clearText ∈ zwd := zmem (List.mem_append_right _ (List.mem_append_left _ (List.mem_of_getElem? (i := 151) rfl))) rfl
theorem knX2_load : Cond.instanceMethod yX2_load ∈ zwd := zmem (List.mem_append_right _ (List.mem_append_left _ (List.mem_of_getElem? (i := 154) rfl))) rfl
theorem ksX2_load : Cond.selects RX2 yX2_load yX2_load ∈ zwd := zmem (List.mem_append_right _ (List.mem_append_left _ (List.mem_of_getElem? (i := 155) rfl))) rfl
theorem knX2_errorPosition : Cond.instanceMethod yX2_errorPosition ∈ zwd := zmem (List.mem_append_right _ (List.mem_append_left _ (List.mem_of_getElem? (i := 159) rfl))) rfl
theorem ksX2_errorPosition : Cond.selects RX2 yX2_errorPosition yX2_errorPosition ∈ zwd := zmem (List.mem_append_left _ (List.mem_of_getElem? (i := 0) rfl)) rfl
theorem ktX2_isCode : Cond.static yX2_isCode ∈ zwd := zmem (List.mem_append_right _ (List.mem_append_left _ (List.mem_of_getElem? (i := 162) rfl))) rfl
theorem knX2_keepForUndo : Cond.instanceMethod yX2_keepForUndo ∈ zwd := zmem (List.mem_append_right _ (List.mem_append_left _ (List.mem_of_getElem? (i := 166) rfl))) rfl
theorem ksX2_keepForUndo : Cond.selects RX2 yX2_keepForUndo yX2_keepForUndo ∈ zwd := zmem (List.mem_append_left _ (List.mem_of_getElem? (i := 1) rfl)) rfl
theorem knX1_copyFrom : Cond.instanceMethod yX1_copyFrom ∈ zwd := zmem (List.mem_append_right _ (List.mem_append_left _ (List.mem_of_getElem? (i := 169) rfl))) rfl
theorem ksX1_copyFrom : Cond.selects RX1 yX1_copyFrom yX1_copyFrom ∈ zwd := zmem (List.mem_append_right _ (List.mem_append_left _ (List.mem_of_getElem? (i := 170) rfl))) rfl
theorem knX0_copyFrom : Cond.instanceMethod yX0_copyFrom ∈ zwd := zmem (List.mem_append_right _ (List.mem_append_left _ (List.mem_of_getElem? (i := 176) rfl))) rfl
theorem ksX0_copyFrom : Cond.selects RX0 yX0_copyFrom yX0_copyFrom ∈ zwd := zmem (List.mem_append_right _ (List.mem_append_left _ (List.mem_of_getElem? (i := 177) rfl))) rfl
theorem knX2_readProgram : Cond.instanceMethod yX2_readProgram ∈ zwd := zmem (List.mem_append_right _ (List.mem_append_left _ (List.mem_of_getElem? (i := 182) rfl))) rfl
theorem ksX2_readProgram : Cond.selects RX2 yX2_readProgram yX2_readProgram ∈ zwd := zmem (List.mem_append_left _ (List.mem_of_getElem? (i := 2) rfl)) rfl
theorem ktX2_isCell : Cond.static yX2_isCell ∈ zwd := zmem (List.mem_append_right _ (List.mem_append_left _ (List.mem_of_getElem? (i := 185) rfl))) rfl
theorem knX1_beginRun : Cond.instanceMethod yX1_beginRun ∈ zwd := zmem (List.mem_append_right _ (List.mem_append_left _ (List.mem_of_getElem? (i := 188) rfl))) rfl
theorem ksX1_beginRun : Cond.selects RX1 yX1_beginRun yX1_beginRun ∈ zwd := zmem (List.mem_append_right _ (List.mem_append_left _ (List.mem_of_getElem? (i := 189) rfl))) rfl
theorem knX0_reset : Cond.instanceMethod yX0_reset ∈ zwd := zmem (List.mem_append_right _ (List.mem_append_left _ (List.mem_of_getElem? (i := 192) rfl))) rfl
theorem ksX0_reset : Cond.selects RX0 yX0_reset yX0_reset ∈ zwd := zmem (List.mem_append_right _ (List.mem_append_left _ (List.mem_of_getElem? (i := 193) rfl))) rfl
theorem knX1_countFilledCells : Cond.instanceMethod yX1_countFilledCells ∈ zwd := zmem (List.mem_append_right _ (List.mem_append_left _ (List.mem_of_getElem? (i := 196) rfl))) rfl
theorem ksX1_countFilledCells : Cond.selects RX1 yX1_countFilledCells yX1_countFilledCells ∈ zwd := zmem (List.mem_append_right _ (List.mem_append_left _ (List.mem_of_getElem? (i := 197) rfl))) rfl
theorem knX2_rewind : Cond.instanceMethod yX2_rewind ∈ zwd := zmem (List.mem_append_right _ (List.mem_append_left _ (List.mem_of_getElem? (i := 200) rfl))) rfl
theorem ksX2_rewind : Cond.selects RX2 yX2_rewind yX2_rewind ∈ zwd := zmem (List.mem_append_right _ (List.mem_append_left _ (List.mem_of_getElem? (i := 201) rfl))) rfl
theorem knX2_feed : Cond.instanceMethod yX2_feed ∈ zwd := zmem (List.mem_append_right _ (List.mem_append_left _ (List.mem_of_getElem? (i := 204) rfl))) rfl
theorem ksX2_feed : Cond.selects RX2 yX2_feed yX2_feed ∈ zwd := zmem (List.mem_append_right _ (List.mem_append_left _ (List.mem_of_getElem? (i := 205) rfl))) rfl
theorem knX1_addInput : Cond.instanceMethod yX1_addInput ∈ zwd := zmem (List.mem_append_right _ (List.mem_append_left _ (List.mem_of_getElem? (i := 208) rfl))) rfl
theorem ksX1_addInput : Cond.selects RX1 yX1_addInput yX1_addInput ∈ zwd := zmem (List.mem_append_right _ (List.mem_append_left _ (List.mem_of_getElem? (i := 209) rfl))) rfl
theorem knX2_poke : Cond.instanceMethod yX2_poke ∈ zwd := zmem (List.mem_append_right _ (List.mem_append_left _ (List.mem_of_getElem? (i := 212) rfl))) rfl
theorem ksX2_poke : Cond.selects RX2 yX2_poke yX2_poke ∈ zwd := zmem (List.mem_append_right _ (List.mem_append_left _ (List.mem_of_getElem? (i := 213) rfl))) rfl
theorem knX2_tick : Cond.instanceMethod yX2_tick ∈ zwd := zmem (List.mem_append_right _ (List.mem_append_left _ (List.mem_of_getElem? (i := 216) rfl))) rfl
theorem ksX2_tick : Cond.selects RX2 yX2_tick yX2_tick ∈ zwd := zmem (List.mem_append_right _ (List.mem_append_left _ (List.mem_of_getElem? (i := 217) rfl))) rfl
theorem knX2_advance : Cond.instanceMethod yX2_advance ∈ zwd := zmem (List.mem_append_right _ (List.mem_append_left _ (List.mem_of_getElem? (i := 221) rfl))) rfl
theorem ksX2_advance : Cond.selects RX2 yX2_advance yX2_advance ∈ zwd := zmem (List.mem_append_left _ (List.mem_of_getElem? (i := 3) rfl)) rfl
theorem ktX2_isTickLimit : Cond.static yX2_isTickLimit ∈ zwd := zmem (List.mem_append_right _ (List.mem_append_left _ (List.mem_of_getElem? (i := 224) rfl))) rfl
theorem knX1_isHalted : Cond.instanceMethod yX1_isHalted ∈ zwd := zmem (List.mem_append_right _ (List.mem_append_left _ (List.mem_of_getElem? (i := 227) rfl))) rfl
theorem ksX1_isHalted : Cond.selects RX1 yX1_isHalted yX1_isHalted ∈ zwd := zmem (List.mem_append_right _ (List.mem_append_left _ (List.mem_of_getElem? (i := 228) rfl))) rfl
theorem knX1_performTick : Cond.instanceMethod yX1_performTick ∈ zwd := zmem (List.mem_append_right _ (List.mem_append_left _ (List.mem_of_getElem? (i := 231) rfl))) rfl
theorem ksX1_performTick : Cond.selects RX1 yX1_performTick yX1_performTick ∈ zwd := zmem (List.mem_append_right _ (List.mem_append_left _ (List.mem_of_getElem? (i := 232) rfl))) rfl
theorem knX1_takeTurn : Cond.instanceMethod yX1_takeTurn ∈ zwd := zmem (List.mem_append_right _ (List.mem_append_left _ (List.mem_of_getElem? (i := 236) rfl))) rfl
theorem ksX1_takeTurn : Cond.selects RX1 yX1_takeTurn yX1_takeTurn ∈ zwd := zmem (List.mem_append_left _ (List.mem_of_getElem? (i := 4) rfl)) rfl
theorem knX0_cell : Cond.instanceMethod yX0_cell ∈ zwd := zmem (List.mem_append_right _ (List.mem_append_left _ (List.mem_of_getElem? (i := 239) rfl))) rfl
theorem ksX0_cell : Cond.selects RX0 yX0_cell yX0_cell ∈ zwd := zmem (List.mem_append_right _ (List.mem_append_right _ (List.mem_append_left _ (List.mem_of_getElem? (i := 0) rfl)))) rfl
theorem knX1_fetchCell : Cond.instanceMethod yX1_fetchCell ∈ zwd := zmem (List.mem_append_right _ (List.mem_append_right _ (List.mem_append_left _ (List.mem_of_getElem? (i := 4) rfl)))) rfl
theorem ksX1_fetchCell : Cond.selects RX1 yX1_fetchCell yX1_fetchCell ∈ zwd := zmem (List.mem_append_left _ (List.mem_of_getElem? (i := 5) rfl)) rfl
theorem knX0_pop : Cond.instanceMethod yX0_pop ∈ zwd := zmem (List.mem_append_right _ (List.mem_append_right _ (List.mem_append_left _ (List.mem_of_getElem? (i := 7) rfl)))) rfl
theorem ksX0_pop : Cond.selects RX0 yX0_pop yX0_pop ∈ zwd := zmem (List.mem_append_right _ (List.mem_append_right _ (List.mem_append_left _ (List.mem_of_getElem? (i := 8) rfl)))) rfl
theorem ktX1_wrappedCell : Cond.static yX1_wrappedCell ∈ zwd := zmem (List.mem_append_right _ (List.mem_append_right _ (List.mem_append_left _ (List.mem_of_getElem? (i := 11) rfl)))) rfl
theorem ktJ9_floorMod_7cf53 : Cond.static yJ9_floorMod_7cf53 ∈ zwd := zmem (List.mem_append_right _ (List.mem_append_right _ (List.mem_append_left _ (List.mem_of_getElem? (i := 14) rfl)))) rfl
theorem knX0_push : Cond.instanceMethod yX0_push ∈ zwd := zmem (List.mem_append_right _ (List.mem_append_right _ (List.mem_append_left _ (List.mem_of_getElem? (i := 17) rfl)))) rfl
theorem ksX0_push : Cond.selects RX0 yX0_push yX0_push ∈ zwd := zmem (List.mem_append_right _ (List.mem_append_right _ (List.mem_append_left _ (List.mem_of_getElem? (i := 18) rfl)))) rfl
theorem knX1_storeCell : Cond.instanceMethod yX1_storeCell ∈ zwd := zmem (List.mem_append_right _ (List.mem_append_right _ (List.mem_append_left _ (List.mem_of_getElem? (i := 22) rfl)))) rfl
theorem ksX1_storeCell : Cond.selects RX1 yX1_storeCell yX1_storeCell ∈ zwd := zmem (List.mem_append_left _ (List.mem_of_getElem? (i := 6) rfl)) rfl
theorem knX1_addOutput : Cond.instanceMethod yX1_addOutput ∈ zwd := zmem (List.mem_append_right _ (List.mem_append_right _ (List.mem_append_left _ (List.mem_of_getElem? (i := 27) rfl)))) rfl
theorem ksX1_addOutput : Cond.selects RX1 yX1_addOutput yX1_addOutput ∈ zwd := zmem (List.mem_append_left _ (List.mem_of_getElem? (i := 7) rfl)) rfl
theorem knX1_takeInput : Cond.instanceMethod yX1_takeInput ∈ zwd := zmem (List.mem_append_right _ (List.mem_append_right _ (List.mem_append_left _ (List.mem_of_getElem? (i := 31) rfl)))) rfl
theorem ksX1_takeInput : Cond.selects RX1 yX1_takeInput yX1_takeInput ∈ zwd := zmem (List.mem_append_left _ (List.mem_of_getElem? (i := 8) rfl)) rfl
theorem knX0_turn : Cond.instanceMethod yX0_turn ∈ zwd := zmem (List.mem_append_right _ (List.mem_append_right _ (List.mem_append_left _ (List.mem_of_getElem? (i := 34) rfl)))) rfl
theorem ksX0_turn : Cond.selects RX0 yX0_turn yX0_turn ∈ zwd := zmem (List.mem_append_right _ (List.mem_append_right _ (List.mem_append_left _ (List.mem_of_getElem? (i := 35) rfl)))) rfl
theorem knX1_split : Cond.instanceMethod yX1_split ∈ zwd := zmem (List.mem_append_right _ (List.mem_append_right _ (List.mem_append_left _ (List.mem_of_getElem? (i := 39) rfl)))) rfl
theorem ksX1_split : Cond.selects RX1 yX1_split yX1_split ∈ zwd := zmem (List.mem_append_left _ (List.mem_of_getElem? (i := 9) rfl)) rfl
theorem knX0_step : Cond.instanceMethod yX0_step ∈ zwd := zmem (List.mem_append_right _ (List.mem_append_right _ (List.mem_append_left _ (List.mem_of_getElem? (i := 42) rfl)))) rfl
theorem ksX0_step : Cond.selects RX0 yX0_step yX0_step ∈ zwd := zmem (List.mem_append_right _ (List.mem_append_right _ (List.mem_append_left _ (List.mem_of_getElem? (i := 43) rfl)))) rfl
theorem knX0_perform : Cond.instanceMethod yX0_perform ∈ zwd := zmem (List.mem_append_right _ (List.mem_append_right _ (List.mem_append_left _ (List.mem_of_getElem? (i := 46) rfl)))) rfl
theorem ksX0_perform : Cond.selects RX0 yX0_perform yX0_perform ∈ zwd := zmem (List.mem_append_right _ (List.mem_append_right _ (List.mem_append_left _ (List.mem_of_getElem? (i := 47) rfl)))) rfl
theorem ktX0_combine : Cond.static yX0_combine ∈ zwd := zmem (List.mem_append_right _ (List.mem_append_right _ (List.mem_append_left _ (List.mem_of_getElem? (i := 52) rfl)))) rfl
theorem knX0_openStack : Cond.instanceMethod yX0_openStack ∈ zwd := zmem (List.mem_append_right _ (List.mem_append_right _ (List.mem_append_left _ (List.mem_of_getElem? (i := 56) rfl)))) rfl
theorem ksX0_openStack : Cond.selects RX0 yX0_openStack yX0_openStack ∈ zwd := zmem (List.mem_append_left _ (List.mem_of_getElem? (i := 10) rfl)) rfl
theorem knX0_movable : Cond.instanceMethod yX0_movable ∈ zwd := zmem (List.mem_append_right _ (List.mem_append_right _ (List.mem_append_left _ (List.mem_of_getElem? (i := 60) rfl)))) rfl
theorem ksX0_movable : Cond.selects RX0 yX0_movable yX0_movable ∈ zwd := zmem (List.mem_append_left _ (List.mem_of_getElem? (i := 11) rfl)) rfl
theorem knX0_closeStack : Cond.instanceMethod yX0_closeStack ∈ zwd := zmem (List.mem_append_right _ (List.mem_append_right _ (List.mem_append_left _ (List.mem_of_getElem? (i := 64) rfl)))) rfl
theorem ksX0_closeStack : Cond.selects RX0 yX0_closeStack yX0_closeStack ∈ zwd := zmem (List.mem_append_left _ (List.mem_of_getElem? (i := 12) rfl)) rfl
theorem ktJ9_min_7cf53 : Cond.static yJ9_min_7cf53 ∈ zwd := zmem (List.mem_append_right _ (List.mem_append_right _ (List.mem_append_left _ (List.mem_of_getElem? (i := 68) rfl)))) rfl
theorem ktJ9_max_7cf53 : Cond.static yJ9_max_7cf53 ∈ zwd := zmem (List.mem_append_right _ (List.mem_append_right _ (List.mem_append_left _ (List.mem_of_getElem? (i := 71) rfl)))) rfl
theorem knX0_steer : Cond.instanceMethod yX0_steer ∈ zwd := zmem (List.mem_append_right _ (List.mem_append_right _ (List.mem_append_left _ (List.mem_of_getElem? (i := 75) rfl)))) rfl
theorem ksX0_steer : Cond.selects RX0 yX0_steer yX0_steer ∈ zwd := zmem (List.mem_append_left _ (List.mem_of_getElem? (i := 13) rfl)) rfl
theorem knX2_atBreakpoint : Cond.instanceMethod yX2_atBreakpoint ∈ zwd := zmem (List.mem_append_right _ (List.mem_append_right _ (List.mem_append_left _ (List.mem_of_getElem? (i := 80) rfl)))) rfl
theorem ksX2_atBreakpoint : Cond.selects RX2 yX2_atBreakpoint yX2_atBreakpoint ∈ zwd := zmem (List.mem_append_left _ (List.mem_of_getElem? (i := 14) rfl)) rfl
theorem knX2_run : Cond.instanceMethod yX2_run ∈ zwd := zmem (List.mem_append_right _ (List.mem_append_right _ (List.mem_append_left _ (List.mem_of_getElem? (i := 84) rfl)))) rfl
theorem ksX2_run : Cond.selects RX2 yX2_run yX2_run ∈ zwd := zmem (List.mem_append_right _ (List.mem_append_right _ (List.mem_append_left _ (List.mem_of_getElem? (i := 85) rfl)))) rfl
theorem knX2_setBreakpoint : Cond.instanceMethod yX2_setBreakpoint ∈ zwd := zmem (List.mem_append_right _ (List.mem_append_right _ (List.mem_append_left _ (List.mem_of_getElem? (i := 88) rfl)))) rfl
theorem ksX2_setBreakpoint : Cond.selects RX2 yX2_setBreakpoint yX2_setBreakpoint ∈ zwd := zmem (List.mem_append_right _ (List.mem_append_right _ (List.mem_append_left _ (List.mem_of_getElem? (i := 89) rfl)))) rfl
theorem knX2_undo : Cond.instanceMethod yX2_undo ∈ zwd := zmem (List.mem_append_right _ (List.mem_append_right _ (List.mem_append_left _ (List.mem_of_getElem? (i := 92) rfl)))) rfl
theorem ksX2_undo : Cond.selects RX2 yX2_undo yX2_undo ∈ zwd := zmem (List.mem_append_right _ (List.mem_append_right _ (List.mem_append_left _ (List.mem_of_getElem? (i := 93) rfl)))) rfl
theorem knX2_ticksToHalt : Cond.instanceMethod yX2_ticksToHalt ∈ zwd := zmem (List.mem_append_right _ (List.mem_append_right _ (List.mem_append_left _ (List.mem_of_getElem? (i := 96) rfl)))) rfl
theorem ksX2_ticksToHalt : Cond.selects RX2 yX2_ticksToHalt yX2_ticksToHalt ∈ zwd := zmem (List.mem_append_right _ (List.mem_append_right _ (List.mem_append_left _ (List.mem_of_getElem? (i := 97) rfl)))) rfl
theorem knX2_cycleStart : Cond.instanceMethod yX2_cycleStart ∈ zwd := zmem (List.mem_append_right _ (List.mem_append_right _ (List.mem_append_left _ (List.mem_of_getElem? (i := 100) rfl)))) rfl
theorem ksX2_cycleStart : Cond.selects RX2 yX2_cycleStart yX2_cycleStart ∈ zwd := zmem (List.mem_append_right _ (List.mem_append_right _ (List.mem_append_left _ (List.mem_of_getElem? (i := 101) rfl)))) rfl
theorem knX2_findPeriod : Cond.instanceMethod yX2_findPeriod ∈ zwd := zmem (List.mem_append_right _ (List.mem_append_right _ (List.mem_append_left _ (List.mem_of_getElem? (i := 105) rfl)))) rfl
theorem ksX2_findPeriod : Cond.selects RX2 yX2_findPeriod yX2_findPeriod ∈ zwd := zmem (List.mem_append_left _ (List.mem_of_getElem? (i := 15) rfl)) rfl
theorem knX1_hasConfigurationOf : Cond.instanceMethod yX1_hasConfigurationOf ∈ zwd := zmem (List.mem_append_right _ (List.mem_append_right _ (List.mem_append_left _ (List.mem_of_getElem? (i := 108) rfl)))) rfl
theorem ksX1_hasConfigurationOf : Cond.selects RX1 yX1_hasConfigurationOf yX1_hasConfigurationOf ∈ zwd := zmem (List.mem_append_right _ (List.mem_append_right _ (List.mem_append_left _ (List.mem_of_getElem? (i := 109) rfl)))) rfl
theorem knX0_isLike : Cond.instanceMethod yX0_isLike ∈ zwd := zmem (List.mem_append_right _ (List.mem_append_right _ (List.mem_append_left _ (List.mem_of_getElem? (i := 112) rfl)))) rfl
theorem ksX0_isLike : Cond.selects RX0 yX0_isLike yX0_isLike ∈ zwd := zmem (List.mem_append_right _ (List.mem_append_right _ (List.mem_append_left _ (List.mem_of_getElem? (i := 113) rfl)))) rfl
theorem knX2_findCycleEntry : Cond.instanceMethod yX2_findCycleEntry ∈ zwd := zmem (List.mem_append_right _ (List.mem_append_right _ (List.mem_append_left _ (List.mem_of_getElem? (i := 117) rfl)))) rfl
theorem ksX2_findCycleEntry : Cond.selects RX2 yX2_findCycleEntry yX2_findCycleEntry ∈ zwd := zmem (List.mem_append_left _ (List.mem_of_getElem? (i := 16) rfl)) rfl
theorem knX2_cycleLength : Cond.instanceMethod yX2_cycleLength ∈ zwd := zmem (List.mem_append_right _ (List.mem_append_right _ (List.mem_append_left _ (List.mem_of_getElem? (i := 120) rfl)))) rfl
theorem ksX2_cycleLength : Cond.selects RX2 yX2_cycleLength yX2_cycleLength ∈ zwd := zmem (List.mem_append_right _ (List.mem_append_right _ (List.mem_append_left _ (List.mem_of_getElem? (i := 121) rfl)))) rfl
theorem knX2_cellAt : Cond.instanceMethod yX2_cellAt ∈ zwd := zmem (List.mem_append_right _ (List.mem_append_right _ (List.mem_append_left _ (List.mem_of_getElem? (i := 124) rfl)))) rfl
theorem ksX2_cellAt : Cond.selects RX2 yX2_cellAt yX2_cellAt ∈ zwd := zmem (List.mem_append_right _ (List.mem_append_right _ (List.mem_append_left _ (List.mem_of_getElem? (i := 125) rfl)))) rfl
theorem knX2_changedCells : Cond.instanceMethod yX2_changedCells ∈ zwd := zmem (List.mem_append_right _ (List.mem_append_right _ (List.mem_append_left _ (List.mem_of_getElem? (i := 128) rfl)))) rfl
theorem ksX2_changedCells : Cond.selects RX2 yX2_changedCells yX2_changedCells ∈ zwd := zmem (List.mem_append_right _ (List.mem_append_right _ (List.mem_append_left _ (List.mem_of_getElem? (i := 129) rfl)))) rfl
theorem knX2_pointerCount : Cond.instanceMethod yX2_pointerCount ∈ zwd := zmem (List.mem_append_right _ (List.mem_append_right _ (List.mem_append_left _ (List.mem_of_getElem? (i := 132) rfl)))) rfl
theorem ksX2_pointerCount : Cond.selects RX2 yX2_pointerCount yX2_pointerCount ∈ zwd := zmem (List.mem_append_right _ (List.mem_append_right _ (List.mem_append_left _ (List.mem_of_getElem? (i := 133) rfl)))) rfl
theorem knX2_pointerAt : Cond.instanceMethod yX2_pointerAt ∈ zwd := zmem (List.mem_append_right _ (List.mem_append_right _ (List.mem_append_left _ (List.mem_of_getElem? (i := 136) rfl)))) rfl
theorem ksX2_pointerAt : Cond.selects RX2 yX2_pointerAt yX2_pointerAt ∈ zwd := zmem (List.mem_append_right _ (List.mem_append_right _ (List.mem_append_left _ (List.mem_of_getElem? (i := 137) rfl)))) rfl
theorem knX2_isPointer : Cond.instanceMethod yX2_isPointer ∈ zwd := zmem (List.mem_append_right _ (List.mem_append_right _ (List.mem_append_left _ (List.mem_of_getElem? (i := 141) rfl)))) rfl
theorem ksX2_isPointer : Cond.selects RX2 yX2_isPointer yX2_isPointer ∈ zwd := zmem (List.mem_append_left _ (List.mem_of_getElem? (i := 17) rfl)) rfl
theorem knX2_position : Cond.instanceMethod yX2_position ∈ zwd := zmem (List.mem_append_right _ (List.mem_append_right _ (List.mem_append_left _ (List.mem_of_getElem? (i := 144) rfl)))) rfl
theorem ksX2_position : Cond.selects RX2 yX2_position yX2_position ∈ zwd := zmem (List.mem_append_right _ (List.mem_append_right _ (List.mem_append_left _ (List.mem_of_getElem? (i := 145) rfl)))) rfl
theorem knX2_direction : Cond.instanceMethod yX2_direction ∈ zwd := zmem (List.mem_append_right _ (List.mem_append_right _ (List.mem_append_left _ (List.mem_of_getElem? (i := 148) rfl)))) rfl
theorem ksX2_direction : Cond.selects RX2 yX2_direction yX2_direction ∈ zwd := zmem (List.mem_append_right _ (List.mem_append_right _ (List.mem_append_left _ (List.mem_of_getElem? (i := 149) rfl)))) rfl
theorem knX2_status : Cond.instanceMethod yX2_status ∈ zwd := zmem (List.mem_append_right _ (List.mem_append_right _ (List.mem_append_left _ (List.mem_of_getElem? (i := 152) rfl)))) rfl
theorem ksX2_status : Cond.selects RX2 yX2_status yX2_status ∈ zwd := zmem (List.mem_append_right _ (List.mem_append_right _ (List.mem_append_left _ (List.mem_of_getElem? (i := 153) rfl)))) rfl
theorem knX2_sleep : Cond.instanceMethod yX2_sleep ∈ zwd := zmem (List.mem_append_right _ (List.mem_append_right _ (List.mem_append_left _ (List.mem_of_getElem? (i := 156) rfl)))) rfl
theorem ksX2_sleep : Cond.selects RX2 yX2_sleep yX2_sleep ∈ zwd := zmem (List.mem_append_right _ (List.mem_append_right _ (List.mem_append_left _ (List.mem_of_getElem? (i := 157) rfl)))) rfl
theorem knX2_stackCount : Cond.instanceMethod yX2_stackCount ∈ zwd := zmem (List.mem_append_right _ (List.mem_append_right _ (List.mem_append_left _ (List.mem_of_getElem? (i := 160) rfl)))) rfl
theorem ksX2_stackCount : Cond.selects RX2 yX2_stackCount yX2_stackCount ∈ zwd := zmem (List.mem_append_right _ (List.mem_append_right _ (List.mem_append_left _ (List.mem_of_getElem? (i := 161) rfl)))) rfl
theorem knX2_stackSize : Cond.instanceMethod yX2_stackSize ∈ zwd := zmem (List.mem_append_right _ (List.mem_append_right _ (List.mem_append_left _ (List.mem_of_getElem? (i := 164) rfl)))) rfl
theorem ksX2_stackSize : Cond.selects RX2 yX2_stackSize yX2_stackSize ∈ zwd := zmem (List.mem_append_right _ (List.mem_append_right _ (List.mem_append_left _ (List.mem_of_getElem? (i := 165) rfl)))) rfl
theorem knX2_isStack : Cond.instanceMethod yX2_isStack ∈ zwd := zmem (List.mem_append_right _ (List.mem_append_right _ (List.mem_append_left _ (List.mem_of_getElem? (i := 169) rfl)))) rfl
theorem ksX2_isStack : Cond.selects RX2 yX2_isStack yX2_isStack ∈ zwd := zmem (List.mem_append_left _ (List.mem_of_getElem? (i := 18) rfl)) rfl
theorem knX2_valueAt : Cond.instanceMethod yX2_valueAt ∈ zwd := zmem (List.mem_append_right _ (List.mem_append_right _ (List.mem_append_left _ (List.mem_of_getElem? (i := 172) rfl)))) rfl
theorem ksX2_valueAt : Cond.selects RX2 yX2_valueAt yX2_valueAt ∈ zwd := zmem (List.mem_append_right _ (List.mem_append_right _ (List.mem_append_left _ (List.mem_of_getElem? (i := 173) rfl)))) rfl
theorem knX0_stackBegin : Cond.instanceMethod yX0_stackBegin ∈ zwd := zmem (List.mem_append_right _ (List.mem_append_right _ (List.mem_append_left _ (List.mem_of_getElem? (i := 176) rfl)))) rfl
theorem ksX0_stackBegin : Cond.selects RX0 yX0_stackBegin yX0_stackBegin ∈ zwd := zmem (List.mem_append_right _ (List.mem_append_right _ (List.mem_append_left _ (List.mem_of_getElem? (i := 177) rfl)))) rfl
theorem knX2_inputSize : Cond.instanceMethod yX2_inputSize ∈ zwd := zmem (List.mem_append_right _ (List.mem_append_right _ (List.mem_append_left _ (List.mem_of_getElem? (i := 180) rfl)))) rfl
theorem ksX2_inputSize : Cond.selects RX2 yX2_inputSize yX2_inputSize ∈ zwd := zmem (List.mem_append_right _ (List.mem_append_right _ (List.mem_append_left _ (List.mem_of_getElem? (i := 181) rfl)))) rfl
theorem knX2_outputSize : Cond.instanceMethod yX2_outputSize ∈ zwd := zmem (List.mem_append_right _ (List.mem_append_right _ (List.mem_append_left _ (List.mem_of_getElem? (i := 184) rfl)))) rfl
theorem ksX2_outputSize : Cond.selects RX2 yX2_outputSize yX2_outputSize ∈ zwd := zmem (List.mem_append_right _ (List.mem_append_right _ (List.mem_append_left _ (List.mem_of_getElem? (i := 185) rfl)))) rfl
theorem knX2_outputAt : Cond.instanceMethod yX2_outputAt ∈ zwd := zmem (List.mem_append_right _ (List.mem_append_right _ (List.mem_append_left _ (List.mem_of_getElem? (i := 188) rfl)))) rfl
theorem ksX2_outputAt : Cond.selects RX2 yX2_outputAt yX2_outputAt ∈ zwd := zmem (List.mem_append_right _ (List.mem_append_right _ (List.mem_append_left _ (List.mem_of_getElem? (i := 189) rfl)))) rfl
theorem knX2_outputTotal : Cond.instanceMethod yX2_outputTotal ∈ zwd := zmem (List.mem_append_right _ (List.mem_append_right _ (List.mem_append_left _ (List.mem_of_getElem? (i := 192) rfl)))) rfl
theorem ksX2_outputTotal : Cond.selects RX2 yX2_outputTotal yX2_outputTotal ∈ zwd := zmem (List.mem_append_right _ (List.mem_append_right _ (List.mem_append_left _ (List.mem_of_getElem? (i := 193) rfl)))) rfl
theorem knX2_tickCount : Cond.instanceMethod yX2_tickCount ∈ zwd := zmem (List.mem_append_right _ (List.mem_append_right _ (List.mem_append_left _ (List.mem_of_getElem? (i := 196) rfl)))) rfl
theorem ksX2_tickCount : Cond.selects RX2 yX2_tickCount yX2_tickCount ∈ zwd := zmem (List.mem_append_right _ (List.mem_append_right _ (List.mem_append_left _ (List.mem_of_getElem? (i := 197) rfl)))) rfl
theorem knX2_save : Cond.instanceMethod yX2_save ∈ zwd := zmem (List.mem_append_right _ (List.mem_append_right _ (List.mem_append_left _ (List.mem_of_getElem? (i := 200) rfl)))) rfl
theorem ksX2_save : Cond.selects RX2 yX2_save yX2_save ∈ zwd := zmem (List.mem_append_right _ (List.mem_append_right _ (List.mem_append_left _ (List.mem_of_getElem? (i := 201) rfl)))) rfl
theorem knX2_restore : Cond.instanceMethod yX2_restore ∈ zwd := zmem (List.mem_append_right _ (List.mem_append_right _ (List.mem_append_left _ (List.mem_of_getElem? (i := 204) rfl)))) rfl
theorem ksX2_restore : Cond.selects RX2 yX2_restore yX2_restore ∈ zwd := zmem (List.mem_append_right _ (List.mem_append_right _ (List.mem_append_left _ (List.mem_of_getElem? (i := 205) rfl)))) rfl
theorem knX2_undoDepth : Cond.instanceMethod yX2_undoDepth ∈ zwd := zmem (List.mem_append_right _ (List.mem_append_right _ (List.mem_append_left _ (List.mem_of_getElem? (i := 208) rfl)))) rfl
theorem ksX2_undoDepth : Cond.selects RX2 yX2_undoDepth yX2_undoDepth ∈ zwd := zmem (List.mem_append_right _ (List.mem_append_right _ (List.mem_append_left _ (List.mem_of_getElem? (i := 209) rfl)))) rfl
theorem knX3_init : Cond.instanceMethod yX3_init ∈ zwd := zmem (List.mem_append_right _ (List.mem_append_right _ (List.mem_append_left _ (List.mem_of_getElem? (i := 214) rfl)))) rfl
theorem knX3_begin : Cond.instanceMethod yX3_begin ∈ zwd := zmem (List.mem_append_right _ (List.mem_append_right _ (List.mem_append_left _ (List.mem_of_getElem? (i := 219) rfl)))) rfl
theorem ksX3_begin : Cond.selects RX3 yX3_begin yX3_begin ∈ zwd := zmem (List.mem_append_left _ (List.mem_of_getElem? (i := 19) rfl)) rfl
theorem knX3_undo : Cond.instanceMethod yX3_undo ∈ zwd := zmem (List.mem_append_right _ (List.mem_append_right _ (List.mem_append_right _ (List.mem_append_left _ (List.mem_of_getElem? (i := 25) rfl))))) rfl
theorem ksX3_undo : Cond.selects RX3 yX3_undo yX3_undo ∈ zwd := zmem (List.mem_append_right _ (List.mem_append_right _ (List.mem_append_right _ (List.mem_append_left _ (List.mem_of_getElem? (i := 26) rfl))))) rfl
theorem knX3_append : Cond.instanceMethod yX3_append ∈ zwd := zmem (List.mem_append_right _ (List.mem_append_right _ (List.mem_append_right _ (List.mem_append_left _ (List.mem_of_getElem? (i := 29) rfl))))) rfl
theorem ksX3_append : Cond.selects RX3 yX3_append yX3_append ∈ zwd := zmem (List.mem_append_right _ (List.mem_append_right _ (List.mem_append_right _ (List.mem_append_left _ (List.mem_of_getElem? (i := 30) rfl))))) rfl
theorem ktX3_in : Cond.static yX3_in ∈ zwd := zmem (List.mem_append_right _ (List.mem_append_right _ (List.mem_append_right _ (List.mem_append_left _ (List.mem_of_getElem? (i := 33) rfl))))) rfl
theorem knX3_clearText : Cond.instanceMethod yX3_clearText ∈ zwd := zmem (List.mem_append_right _ (List.mem_append_right _ (List.mem_append_right _ (List.mem_append_left _ (List.mem_of_getElem? (i := 36) rfl))))) rfl
theorem ksX3_clearText : Cond.selects RX3 yX3_clearText yX3_clearText ∈ zwd := zmem (List.mem_append_right _ (List.mem_append_right _ (List.mem_append_right _ (List.mem_append_left _ (List.mem_of_getElem? (i := 37) rfl))))) rfl
theorem knX3_load : Cond.instanceMethod yX3_load ∈ zwd := zmem (List.mem_append_right _ (List.mem_append_right _ (List.mem_append_right _ (List.mem_append_left _ (List.mem_of_getElem? (i := 40) rfl))))) rfl
theorem ksX3_load : Cond.selects RX3 yX3_load yX3_load ∈ zwd := zmem (List.mem_append_right _ (List.mem_append_right _ (List.mem_append_right _ (List.mem_append_left _ (List.mem_of_getElem? (i := 41) rfl))))) rfl
theorem knX3_errorPosition : Cond.instanceMethod yX3_errorPosition ∈ zwd := zmem (List.mem_append_right _ (List.mem_append_right _ (List.mem_append_right _ (List.mem_append_left _ (List.mem_of_getElem? (i := 45) rfl))))) rfl
theorem ksX3_errorPosition : Cond.selects RX3 yX3_errorPosition yX3_errorPosition ∈ zwd := zmem (List.mem_append_left _ (List.mem_of_getElem? (i := 20) rfl)) rfl
theorem knX3_remember : Cond.instanceMethod yX3_remember ∈ zwd := zmem (List.mem_append_right _ (List.mem_append_right _ (List.mem_append_right _ (List.mem_append_left _ (List.mem_of_getElem? (i := 49) rfl))))) rfl
theorem ksX3_remember : Cond.selects RX3 yX3_remember yX3_remember ∈ zwd := zmem (List.mem_append_left _ (List.mem_of_getElem? (i := 21) rfl)) rfl
theorem knX3_saveBefore : Cond.instanceMethod yX3_saveBefore ∈ zwd := zmem (List.mem_append_right _ (List.mem_append_right _ (List.mem_append_right _ (List.mem_append_left _ (List.mem_of_getElem? (i := 53) rfl))))) rfl
theorem ksX3_saveBefore : Cond.selects RX3 yX3_saveBefore yX3_saveBefore ∈ zwd := zmem (List.mem_append_left _ (List.mem_of_getElem? (i := 22) rfl)) rfl
theorem knX3_rewind : Cond.instanceMethod yX3_rewind ∈ zwd := zmem (List.mem_append_right _ (List.mem_append_right _ (List.mem_append_right _ (List.mem_append_left _ (List.mem_of_getElem? (i := 56) rfl))))) rfl
theorem ksX3_rewind : Cond.selects RX3 yX3_rewind yX3_rewind ∈ zwd := zmem (List.mem_append_right _ (List.mem_append_right _ (List.mem_append_right _ (List.mem_append_left _ (List.mem_of_getElem? (i := 57) rfl))))) rfl
theorem knX3_feed : Cond.instanceMethod yX3_feed ∈ zwd := zmem (List.mem_append_right _ (List.mem_append_right _ (List.mem_append_right _ (List.mem_append_left _ (List.mem_of_getElem? (i := 60) rfl))))) rfl
theorem ksX3_feed : Cond.selects RX3 yX3_feed yX3_feed ∈ zwd := zmem (List.mem_append_right _ (List.mem_append_right _ (List.mem_append_right _ (List.mem_append_left _ (List.mem_of_getElem? (i := 61) rfl))))) rfl
theorem knX3_poke : Cond.instanceMethod yX3_poke ∈ zwd := zmem (List.mem_append_right _ (List.mem_append_right _ (List.mem_append_right _ (List.mem_append_left _ (List.mem_of_getElem? (i := 64) rfl))))) rfl
theorem ksX3_poke : Cond.selects RX3 yX3_poke yX3_poke ∈ zwd := zmem (List.mem_append_right _ (List.mem_append_right _ (List.mem_append_right _ (List.mem_append_left _ (List.mem_of_getElem? (i := 65) rfl))))) rfl
theorem ktX3_isCell : Cond.static yX3_isCell ∈ zwd := zmem (List.mem_append_right _ (List.mem_append_right _ (List.mem_append_right _ (List.mem_append_left _ (List.mem_of_getElem? (i := 68) rfl))))) rfl
theorem knX3_tick : Cond.instanceMethod yX3_tick ∈ zwd := zmem (List.mem_append_right _ (List.mem_append_right _ (List.mem_append_right _ (List.mem_append_left _ (List.mem_of_getElem? (i := 71) rfl))))) rfl
theorem ksX3_tick : Cond.selects RX3 yX3_tick yX3_tick ∈ zwd := zmem (List.mem_append_right _ (List.mem_append_right _ (List.mem_append_right _ (List.mem_append_left _ (List.mem_of_getElem? (i := 72) rfl))))) rfl
theorem knX3_perform : Cond.instanceMethod yX3_perform ∈ zwd := zmem (List.mem_append_right _ (List.mem_append_right _ (List.mem_append_right _ (List.mem_append_left _ (List.mem_of_getElem? (i := 76) rfl))))) rfl
theorem ksX3_perform : Cond.selects RX3 yX3_perform yX3_perform ∈ zwd := zmem (List.mem_append_left _ (List.mem_of_getElem? (i := 23) rfl)) rfl
theorem knX3_isHalted : Cond.instanceMethod yX3_isHalted ∈ zwd := zmem (List.mem_append_right _ (List.mem_append_right _ (List.mem_append_right _ (List.mem_append_left _ (List.mem_of_getElem? (i := 80) rfl))))) rfl
theorem ksX3_isHalted : Cond.selects RX3 yX3_isHalted yX3_isHalted ∈ zwd := zmem (List.mem_append_left _ (List.mem_of_getElem? (i := 24) rfl)) rfl
theorem knX3_of : Cond.instanceMethod yX3_of ∈ zwd := zmem (List.mem_append_right _ (List.mem_append_right _ (List.mem_append_right _ (List.mem_append_left _ (List.mem_of_getElem? (i := 84) rfl))))) rfl
theorem ksX3_of : Cond.selects RX3 yX3_of yX3_of ∈ zwd := zmem (List.mem_append_left _ (List.mem_of_getElem? (i := 25) rfl)) rfl
theorem knX3_step : Cond.instanceMethod yX3_step ∈ zwd := zmem (List.mem_append_right _ (List.mem_append_right _ (List.mem_append_right _ (List.mem_append_left _ (List.mem_of_getElem? (i := 88) rfl))))) rfl
theorem ksX3_step : Cond.selects RX3 yX3_step yX3_step ∈ zwd := zmem (List.mem_append_left _ (List.mem_of_getElem? (i := 26) rfl)) rfl
theorem knX3_takeTurn : Cond.instanceMethod yX3_takeTurn ∈ zwd := zmem (List.mem_append_right _ (List.mem_append_right _ (List.mem_append_right _ (List.mem_append_left _ (List.mem_of_getElem? (i := 92) rfl))))) rfl
theorem ksX3_takeTurn : Cond.selects RX3 yX3_takeTurn yX3_takeTurn ∈ zwd := zmem (List.mem_append_left _ (List.mem_of_getElem? (i := 27) rfl)) rfl
theorem knX3_put : Cond.instanceMethod yX3_put ∈ zwd := zmem (List.mem_append_right _ (List.mem_append_right _ (List.mem_append_right _ (List.mem_append_left _ (List.mem_of_getElem? (i := 96) rfl))))) rfl
theorem ksX3_put : Cond.selects RX3 yX3_put yX3_put ∈ zwd := zmem (List.mem_append_left _ (List.mem_of_getElem? (i := 28) rfl)) rfl
theorem knX3_execute : Cond.instanceMethod yX3_execute ∈ zwd := zmem (List.mem_append_right _ (List.mem_append_right _ (List.mem_append_right _ (List.mem_append_left _ (List.mem_of_getElem? (i := 100) rfl))))) rfl
theorem ksX3_execute : Cond.selects RX3 yX3_execute yX3_execute ∈ zwd := zmem (List.mem_append_left _ (List.mem_of_getElem? (i := 29) rfl)) rfl
theorem knX3_push : Cond.instanceMethod yX3_push ∈ zwd := zmem (List.mem_append_right _ (List.mem_append_right _ (List.mem_append_right _ (List.mem_append_left _ (List.mem_of_getElem? (i := 104) rfl))))) rfl
theorem ksX3_push : Cond.selects RX3 yX3_push yX3_push ∈ zwd := zmem (List.mem_append_left _ (List.mem_of_getElem? (i := 30) rfl)) rfl
theorem knX3_heldBy : Cond.instanceMethod yX3_heldBy ∈ zwd := zmem (List.mem_append_right _ (List.mem_append_right _ (List.mem_append_right _ (List.mem_append_left _ (List.mem_of_getElem? (i := 108) rfl))))) rfl
theorem ksX3_heldBy : Cond.selects RX3 yX3_heldBy yX3_heldBy ∈ zwd := zmem (List.mem_append_left _ (List.mem_of_getElem? (i := 31) rfl)) rfl
theorem knX3_current : Cond.instanceMethod yX3_current ∈ zwd := zmem (List.mem_append_right _ (List.mem_append_right _ (List.mem_append_right _ (List.mem_append_left _ (List.mem_of_getElem? (i := 112) rfl))))) rfl
theorem ksX3_current : Cond.selects RX3 yX3_current yX3_current ∈ zwd := zmem (List.mem_append_left _ (List.mem_of_getElem? (i := 32) rfl)) rfl
theorem knX3_pop : Cond.instanceMethod yX3_pop ∈ zwd := zmem (List.mem_append_right _ (List.mem_append_right _ (List.mem_append_right _ (List.mem_append_left _ (List.mem_of_getElem? (i := 116) rfl))))) rfl
theorem ksX3_pop : Cond.selects RX3 yX3_pop yX3_pop ∈ zwd := zmem (List.mem_append_left _ (List.mem_of_getElem? (i := 33) rfl)) rfl
theorem ktX3_operate : Cond.static yX3_operate ∈ zwd := zmem (List.mem_append_right _ (List.mem_append_right _ (List.mem_append_right _ (List.mem_append_left _ (List.mem_of_getElem? (i := 119) rfl))))) rfl
theorem knX3_duplicate : Cond.instanceMethod yX3_duplicate ∈ zwd := zmem (List.mem_append_right _ (List.mem_append_right _ (List.mem_append_right _ (List.mem_append_left _ (List.mem_of_getElem? (i := 123) rfl))))) rfl
theorem ksX3_duplicate : Cond.selects RX3 yX3_duplicate yX3_duplicate ∈ zwd := zmem (List.mem_append_left _ (List.mem_of_getElem? (i := 34) rfl)) rfl
theorem knX3_swapTop : Cond.instanceMethod yX3_swapTop ∈ zwd := zmem (List.mem_append_right _ (List.mem_append_right _ (List.mem_append_right _ (List.mem_append_left _ (List.mem_of_getElem? (i := 127) rfl))))) rfl
theorem ksX3_swapTop : Cond.selects RX3 yX3_swapTop yX3_swapTop ∈ zwd := zmem (List.mem_append_left _ (List.mem_of_getElem? (i := 35) rfl)) rfl
theorem knX3_turn : Cond.instanceMethod yX3_turn ∈ zwd := zmem (List.mem_append_right _ (List.mem_append_right _ (List.mem_append_right _ (List.mem_append_left _ (List.mem_of_getElem? (i := 131) rfl))))) rfl
theorem ksX3_turn : Cond.selects RX3 yX3_turn yX3_turn ∈ zwd := zmem (List.mem_append_left _ (List.mem_of_getElem? (i := 36) rfl)) rfl
theorem knX3_move : Cond.instanceMethod yX3_move ∈ zwd := zmem (List.mem_append_right _ (List.mem_append_right _ (List.mem_append_right _ (List.mem_append_left _ (List.mem_of_getElem? (i := 135) rfl))))) rfl
theorem ksX3_move : Cond.selects RX3 yX3_move yX3_move ∈ zwd := zmem (List.mem_append_left _ (List.mem_of_getElem? (i := 37) rfl)) rfl
theorem knX3_fetch : Cond.instanceMethod yX3_fetch ∈ zwd := zmem (List.mem_append_right _ (List.mem_append_right _ (List.mem_append_right _ (List.mem_append_left _ (List.mem_of_getElem? (i := 139) rfl))))) rfl
theorem ksX3_fetch : Cond.selects RX3 yX3_fetch yX3_fetch ∈ zwd := zmem (List.mem_append_left _ (List.mem_of_getElem? (i := 38) rfl)) rfl
theorem ktX3_cell : Cond.static yX3_cell ∈ zwd := zmem (List.mem_append_right _ (List.mem_append_right _ (List.mem_append_right _ (List.mem_append_left _ (List.mem_of_getElem? (i := 142) rfl))))) rfl
theorem ktX3_modulo : Cond.static yX3_modulo ∈ zwd := zmem (List.mem_append_right _ (List.mem_append_right _ (List.mem_append_right _ (List.mem_append_left _ (List.mem_of_getElem? (i := 145) rfl))))) rfl
theorem knX3_store : Cond.instanceMethod yX3_store ∈ zwd := zmem (List.mem_append_right _ (List.mem_append_right _ (List.mem_append_right _ (List.mem_append_left _ (List.mem_of_getElem? (i := 149) rfl))))) rfl
theorem ksX3_store : Cond.selects RX3 yX3_store yX3_store ∈ zwd := zmem (List.mem_append_left _ (List.mem_of_getElem? (i := 39) rfl)) rfl
theorem knX3_output : Cond.instanceMethod yX3_output ∈ zwd := zmem (List.mem_append_right _ (List.mem_append_right _ (List.mem_append_right _ (List.mem_append_left _ (List.mem_of_getElem? (i := 153) rfl))))) rfl
theorem ksX3_output : Cond.selects RX3 yX3_output yX3_output ∈ zwd := zmem (List.mem_append_left _ (List.mem_of_getElem? (i := 40) rfl)) rfl
theorem knX3_input : Cond.instanceMethod yX3_input ∈ zwd := zmem (List.mem_append_right _ (List.mem_append_right _ (List.mem_append_right _ (List.mem_append_left _ (List.mem_of_getElem? (i := 157) rfl))))) rfl
theorem ksX3_input : Cond.selects RX3 yX3_input yX3_input ∈ zwd := zmem (List.mem_append_left _ (List.mem_of_getElem? (i := 41) rfl)) rfl
theorem ktX3_clamp : Cond.static yX3_clamp ∈ zwd := zmem (List.mem_append_right _ (List.mem_append_right _ (List.mem_append_right _ (List.mem_append_left _ (List.mem_of_getElem? (i := 160) rfl))))) rfl
theorem knX3_split : Cond.instanceMethod yX3_split ∈ zwd := zmem (List.mem_append_right _ (List.mem_append_right _ (List.mem_append_right _ (List.mem_append_left _ (List.mem_of_getElem? (i := 164) rfl))))) rfl
theorem ksX3_split : Cond.selects RX3 yX3_split yX3_split ∈ zwd := zmem (List.mem_append_left _ (List.mem_of_getElem? (i := 42) rfl)) rfl
theorem knX3_openStack : Cond.instanceMethod yX3_openStack ∈ zwd := zmem (List.mem_append_right _ (List.mem_append_right _ (List.mem_append_right _ (List.mem_append_left _ (List.mem_of_getElem? (i := 168) rfl))))) rfl
theorem ksX3_openStack : Cond.selects RX3 yX3_openStack yX3_openStack ∈ zwd := zmem (List.mem_append_left _ (List.mem_of_getElem? (i := 43) rfl)) rfl
theorem knX3_closeStack : Cond.instanceMethod yX3_closeStack ∈ zwd := zmem (List.mem_append_right _ (List.mem_append_right _ (List.mem_append_right _ (List.mem_append_left _ (List.mem_of_getElem? (i := 172) rfl))))) rfl
theorem ksX3_closeStack : Cond.selects RX3 yX3_closeStack yX3_closeStack ∈ zwd := zmem (List.mem_append_left _ (List.mem_of_getElem? (i := 44) rfl)) rfl
theorem knX3_isAtBreakpoint : Cond.instanceMethod yX3_isAtBreakpoint ∈ zwd := zmem (List.mem_append_right _ (List.mem_append_right _ (List.mem_append_right _ (List.mem_append_left _ (List.mem_of_getElem? (i := 176) rfl))))) rfl
theorem ksX3_isAtBreakpoint : Cond.selects RX3 yX3_isAtBreakpoint yX3_isAtBreakpoint ∈ zwd := zmem (List.mem_append_left _ (List.mem_of_getElem? (i := 45) rfl)) rfl
theorem knX3_run : Cond.instanceMethod yX3_run ∈ zwd := zmem (List.mem_append_right _ (List.mem_append_right _ (List.mem_append_right _ (List.mem_append_left _ (List.mem_of_getElem? (i := 179) rfl))))) rfl
theorem ksX3_run : Cond.selects RX3 yX3_run yX3_run ∈ zwd := zmem (List.mem_append_right _ (List.mem_append_right _ (List.mem_append_right _ (List.mem_append_left _ (List.mem_of_getElem? (i := 180) rfl))))) rfl
theorem knX3_setBreakpoint : Cond.instanceMethod yX3_setBreakpoint ∈ zwd := zmem (List.mem_append_right _ (List.mem_append_right _ (List.mem_append_right _ (List.mem_append_left _ (List.mem_of_getElem? (i := 183) rfl))))) rfl
theorem ksX3_setBreakpoint : Cond.selects RX3 yX3_setBreakpoint yX3_setBreakpoint ∈ zwd := zmem (List.mem_append_right _ (List.mem_append_right _ (List.mem_append_right _ (List.mem_append_left _ (List.mem_of_getElem? (i := 184) rfl))))) rfl
theorem knX3_breakpoints : Cond.instanceMethod yX3_breakpoints ∈ zwd := zmem (List.mem_append_right _ (List.mem_append_right _ (List.mem_append_right _ (List.mem_append_left _ (List.mem_of_getElem? (i := 188) rfl))))) rfl
theorem ksX3_breakpoints : Cond.selects RX3 yX3_breakpoints yX3_breakpoints ∈ zwd := zmem (List.mem_append_left _ (List.mem_of_getElem? (i := 46) rfl)) rfl
theorem knX3_ticksToHalt : Cond.instanceMethod yX3_ticksToHalt ∈ zwd := zmem (List.mem_append_right _ (List.mem_append_right _ (List.mem_append_right _ (List.mem_append_left _ (List.mem_of_getElem? (i := 191) rfl))))) rfl
theorem ksX3_ticksToHalt : Cond.selects RX3 yX3_ticksToHalt yX3_ticksToHalt ∈ zwd := zmem (List.mem_append_right _ (List.mem_append_right _ (List.mem_append_right _ (List.mem_append_left _ (List.mem_of_getElem? (i := 192) rfl))))) rfl
theorem knX3_halts : Cond.instanceMethod yX3_halts ∈ zwd := zmem (List.mem_append_right _ (List.mem_append_right _ (List.mem_append_right _ (List.mem_append_left _ (List.mem_of_getElem? (i := 196) rfl))))) rfl
theorem ksX3_halts : Cond.selects RX3 yX3_halts yX3_halts ∈ zwd := zmem (List.mem_append_left _ (List.mem_of_getElem? (i := 47) rfl)) rfl
theorem knX3_setAside : Cond.instanceMethod yX3_setAside ∈ zwd := zmem (List.mem_append_right _ (List.mem_append_right _ (List.mem_append_right _ (List.mem_append_left _ (List.mem_of_getElem? (i := 200) rfl))))) rfl
theorem ksX3_setAside : Cond.selects RX3 yX3_setAside yX3_setAside ∈ zwd := zmem (List.mem_append_left _ (List.mem_of_getElem? (i := 48) rfl)) rfl
theorem knX3_takeBack : Cond.instanceMethod yX3_takeBack ∈ zwd := zmem (List.mem_append_right _ (List.mem_append_right _ (List.mem_append_right _ (List.mem_append_left _ (List.mem_of_getElem? (i := 204) rfl))))) rfl
theorem ksX3_takeBack : Cond.selects RX3 yX3_takeBack yX3_takeBack ∈ zwd := zmem (List.mem_append_left _ (List.mem_of_getElem? (i := 49) rfl)) rfl
theorem knX3_cycleStart : Cond.instanceMethod yX3_cycleStart ∈ zwd := zmem (List.mem_append_right _ (List.mem_append_right _ (List.mem_append_right _ (List.mem_append_left _ (List.mem_of_getElem? (i := 207) rfl))))) rfl
theorem ksX3_cycleStart : Cond.selects RX3 yX3_cycleStart yX3_cycleStart ∈ zwd := zmem (List.mem_append_right _ (List.mem_append_right _ (List.mem_append_right _ (List.mem_append_left _ (List.mem_of_getElem? (i := 208) rfl))))) rfl
theorem knX3_findCycle : Cond.instanceMethod yX3_findCycle ∈ zwd := zmem (List.mem_append_right _ (List.mem_append_right _ (List.mem_append_right _ (List.mem_append_left _ (List.mem_of_getElem? (i := 212) rfl))))) rfl
theorem ksX3_findCycle : Cond.selects RX3 yX3_findCycle yX3_findCycle ∈ zwd := zmem (List.mem_append_left _ (List.mem_of_getElem? (i := 50) rfl)) rfl
theorem knX3_isSameAsFirst : Cond.instanceMethod yX3_isSameAsFirst ∈ zwd := zmem (List.mem_append_right _ (List.mem_append_right _ (List.mem_append_right _ (List.mem_append_left _ (List.mem_of_getElem? (i := 216) rfl))))) rfl
theorem ksX3_isSameAsFirst : Cond.selects RX3 yX3_isSameAsFirst yX3_isSameAsFirst ∈ zwd := zmem (List.mem_append_left _ (List.mem_of_getElem? (i := 51) rfl)) rfl
theorem knX3_cycleLength : Cond.instanceMethod yX3_cycleLength ∈ zwd := zmem (List.mem_append_right _ (List.mem_append_right _ (List.mem_append_right _ (List.mem_append_left _ (List.mem_of_getElem? (i := 219) rfl))))) rfl
theorem ksX3_cycleLength : Cond.selects RX3 yX3_cycleLength yX3_cycleLength ∈ zwd := zmem (List.mem_append_right _ (List.mem_append_right _ (List.mem_append_right _ (List.mem_append_left _ (List.mem_of_getElem? (i := 220) rfl))))) rfl
theorem knX3_cellAt : Cond.instanceMethod yX3_cellAt ∈ zwd := zmem (List.mem_append_right _ (List.mem_append_right _ (List.mem_append_right _ (List.mem_append_left _ (List.mem_of_getElem? (i := 223) rfl))))) rfl
theorem ksX3_cellAt : Cond.selects RX3 yX3_cellAt yX3_cellAt ∈ zwd := zmem (List.mem_append_right _ (List.mem_append_right _ (List.mem_append_right _ (List.mem_append_left _ (List.mem_of_getElem? (i := 224) rfl))))) rfl
theorem knX3_changedCells : Cond.instanceMethod yX3_changedCells ∈ zwd := zmem (List.mem_append_right _ (List.mem_append_right _ (List.mem_append_right _ (List.mem_append_left _ (List.mem_of_getElem? (i := 227) rfl))))) rfl
theorem ksX3_changedCells : Cond.selects RX3 yX3_changedCells yX3_changedCells ∈ zwd := zmem (List.mem_append_right _ (List.mem_append_right _ (List.mem_append_right _ (List.mem_append_left _ (List.mem_of_getElem? (i := 228) rfl))))) rfl
theorem knX3_pointerCount : Cond.instanceMethod yX3_pointerCount ∈ zwd := zmem (List.mem_append_right _ (List.mem_append_right _ (List.mem_append_right _ (List.mem_append_left _ (List.mem_of_getElem? (i := 231) rfl))))) rfl
theorem ksX3_pointerCount : Cond.selects RX3 yX3_pointerCount yX3_pointerCount ∈ zwd := zmem (List.mem_append_right _ (List.mem_append_right _ (List.mem_append_right _ (List.mem_append_left _ (List.mem_of_getElem? (i := 232) rfl))))) rfl
theorem knX3_pointerAt : Cond.instanceMethod yX3_pointerAt ∈ zwd := zmem (List.mem_append_right _ (List.mem_append_right _ (List.mem_append_right _ (List.mem_append_left _ (List.mem_of_getElem? (i := 235) rfl))))) rfl
theorem ksX3_pointerAt : Cond.selects RX3 yX3_pointerAt yX3_pointerAt ∈ zwd := zmem (List.mem_append_right _ (List.mem_append_right _ (List.mem_append_right _ (List.mem_append_left _ (List.mem_of_getElem? (i := 236) rfl))))) rfl
theorem knX3_isPointer : Cond.instanceMethod yX3_isPointer ∈ zwd := zmem (List.mem_append_right _ (List.mem_append_right _ (List.mem_append_right _ (List.mem_append_right _ (List.mem_of_getElem? (i := 0) rfl))))) rfl
theorem ksX3_isPointer : Cond.selects RX3 yX3_isPointer yX3_isPointer ∈ zwd := zmem (List.mem_append_left _ (List.mem_of_getElem? (i := 52) rfl)) rfl
theorem knX3_position : Cond.instanceMethod yX3_position ∈ zwd := zmem (List.mem_append_right _ (List.mem_append_right _ (List.mem_append_right _ (List.mem_append_right _ (List.mem_of_getElem? (i := 3) rfl))))) rfl
theorem ksX3_position : Cond.selects RX3 yX3_position yX3_position ∈ zwd := zmem (List.mem_append_right _ (List.mem_append_right _ (List.mem_append_right _ (List.mem_append_right _ (List.mem_of_getElem? (i := 4) rfl))))) rfl
theorem knX3_direction : Cond.instanceMethod yX3_direction ∈ zwd := zmem (List.mem_append_right _ (List.mem_append_right _ (List.mem_append_right _ (List.mem_append_right _ (List.mem_of_getElem? (i := 7) rfl))))) rfl
theorem ksX3_direction : Cond.selects RX3 yX3_direction yX3_direction ∈ zwd := zmem (List.mem_append_right _ (List.mem_append_right _ (List.mem_append_right _ (List.mem_append_right _ (List.mem_of_getElem? (i := 8) rfl))))) rfl
theorem knX3_status : Cond.instanceMethod yX3_status ∈ zwd := zmem (List.mem_append_right _ (List.mem_append_right _ (List.mem_append_right _ (List.mem_append_right _ (List.mem_of_getElem? (i := 11) rfl))))) rfl
theorem ksX3_status : Cond.selects RX3 yX3_status yX3_status ∈ zwd := zmem (List.mem_append_right _ (List.mem_append_right _ (List.mem_append_right _ (List.mem_append_right _ (List.mem_of_getElem? (i := 12) rfl))))) rfl
theorem knX3_sleep : Cond.instanceMethod yX3_sleep ∈ zwd := zmem (List.mem_append_right _ (List.mem_append_right _ (List.mem_append_right _ (List.mem_append_right _ (List.mem_of_getElem? (i := 15) rfl))))) rfl
theorem ksX3_sleep : Cond.selects RX3 yX3_sleep yX3_sleep ∈ zwd := zmem (List.mem_append_right _ (List.mem_append_right _ (List.mem_append_right _ (List.mem_append_right _ (List.mem_of_getElem? (i := 16) rfl))))) rfl
theorem knX3_stackCount : Cond.instanceMethod yX3_stackCount ∈ zwd := zmem (List.mem_append_right _ (List.mem_append_right _ (List.mem_append_right _ (List.mem_append_right _ (List.mem_of_getElem? (i := 19) rfl))))) rfl
theorem ksX3_stackCount : Cond.selects RX3 yX3_stackCount yX3_stackCount ∈ zwd := zmem (List.mem_append_right _ (List.mem_append_right _ (List.mem_append_right _ (List.mem_append_right _ (List.mem_of_getElem? (i := 20) rfl))))) rfl
theorem knX3_stackSize : Cond.instanceMethod yX3_stackSize ∈ zwd := zmem (List.mem_append_right _ (List.mem_append_right _ (List.mem_append_right _ (List.mem_append_right _ (List.mem_of_getElem? (i := 23) rfl))))) rfl
theorem ksX3_stackSize : Cond.selects RX3 yX3_stackSize yX3_stackSize ∈ zwd := zmem (List.mem_append_right _ (List.mem_append_right _ (List.mem_append_right _ (List.mem_append_right _ (List.mem_of_getElem? (i := 24) rfl))))) rfl
theorem knX3_isStack : Cond.instanceMethod yX3_isStack ∈ zwd := zmem (List.mem_append_right _ (List.mem_append_right _ (List.mem_append_right _ (List.mem_append_right _ (List.mem_of_getElem? (i := 28) rfl))))) rfl
theorem ksX3_isStack : Cond.selects RX3 yX3_isStack yX3_isStack ∈ zwd := zmem (List.mem_append_left _ (List.mem_of_getElem? (i := 53) rfl)) rfl
theorem knX3_valueAt : Cond.instanceMethod yX3_valueAt ∈ zwd := zmem (List.mem_append_right _ (List.mem_append_right _ (List.mem_append_right _ (List.mem_append_right _ (List.mem_of_getElem? (i := 31) rfl))))) rfl
theorem ksX3_valueAt : Cond.selects RX3 yX3_valueAt yX3_valueAt ∈ zwd := zmem (List.mem_append_right _ (List.mem_append_right _ (List.mem_append_right _ (List.mem_append_right _ (List.mem_of_getElem? (i := 32) rfl))))) rfl
theorem knX3_inputSize : Cond.instanceMethod yX3_inputSize ∈ zwd := zmem (List.mem_append_right _ (List.mem_append_right _ (List.mem_append_right _ (List.mem_append_right _ (List.mem_of_getElem? (i := 35) rfl))))) rfl
theorem ksX3_inputSize : Cond.selects RX3 yX3_inputSize yX3_inputSize ∈ zwd := zmem (List.mem_append_right _ (List.mem_append_right _ (List.mem_append_right _ (List.mem_append_right _ (List.mem_of_getElem? (i := 36) rfl))))) rfl
theorem knX3_outputSize : Cond.instanceMethod yX3_outputSize ∈ zwd := zmem (List.mem_append_right _ (List.mem_append_right _ (List.mem_append_right _ (List.mem_append_right _ (List.mem_of_getElem? (i := 39) rfl))))) rfl
theorem ksX3_outputSize : Cond.selects RX3 yX3_outputSize yX3_outputSize ∈ zwd := zmem (List.mem_append_right _ (List.mem_append_right _ (List.mem_append_right _ (List.mem_append_right _ (List.mem_of_getElem? (i := 40) rfl))))) rfl
theorem knX3_outputAt : Cond.instanceMethod yX3_outputAt ∈ zwd := zmem (List.mem_append_right _ (List.mem_append_right _ (List.mem_append_right _ (List.mem_append_right _ (List.mem_of_getElem? (i := 43) rfl))))) rfl
theorem ksX3_outputAt : Cond.selects RX3 yX3_outputAt yX3_outputAt ∈ zwd := zmem (List.mem_append_right _ (List.mem_append_right _ (List.mem_append_right _ (List.mem_append_right _ (List.mem_of_getElem? (i := 44) rfl))))) rfl
theorem knX3_outputTotal : Cond.instanceMethod yX3_outputTotal ∈ zwd := zmem (List.mem_append_right _ (List.mem_append_right _ (List.mem_append_right _ (List.mem_append_right _ (List.mem_of_getElem? (i := 47) rfl))))) rfl
theorem ksX3_outputTotal : Cond.selects RX3 yX3_outputTotal yX3_outputTotal ∈ zwd := zmem (List.mem_append_right _ (List.mem_append_right _ (List.mem_append_right _ (List.mem_append_right _ (List.mem_of_getElem? (i := 48) rfl))))) rfl
theorem knX3_tickCount : Cond.instanceMethod yX3_tickCount ∈ zwd := zmem (List.mem_append_right _ (List.mem_append_right _ (List.mem_append_right _ (List.mem_append_right _ (List.mem_of_getElem? (i := 51) rfl))))) rfl
theorem ksX3_tickCount : Cond.selects RX3 yX3_tickCount yX3_tickCount ∈ zwd := zmem (List.mem_append_right _ (List.mem_append_right _ (List.mem_append_right _ (List.mem_append_right _ (List.mem_of_getElem? (i := 52) rfl))))) rfl
theorem knX3_save : Cond.instanceMethod yX3_save ∈ zwd := zmem (List.mem_append_right _ (List.mem_append_right _ (List.mem_append_right _ (List.mem_append_right _ (List.mem_of_getElem? (i := 55) rfl))))) rfl
theorem ksX3_save : Cond.selects RX3 yX3_save yX3_save ∈ zwd := zmem (List.mem_append_right _ (List.mem_append_right _ (List.mem_append_right _ (List.mem_append_right _ (List.mem_of_getElem? (i := 56) rfl))))) rfl
theorem knX3_restore : Cond.instanceMethod yX3_restore ∈ zwd := zmem (List.mem_append_right _ (List.mem_append_right _ (List.mem_append_right _ (List.mem_append_right _ (List.mem_of_getElem? (i := 59) rfl))))) rfl
theorem ksX3_restore : Cond.selects RX3 yX3_restore yX3_restore ∈ zwd := zmem (List.mem_append_right _ (List.mem_append_right _ (List.mem_append_right _ (List.mem_append_right _ (List.mem_of_getElem? (i := 60) rfl))))) rfl
theorem knX3_undoDepth : Cond.instanceMethod yX3_undoDepth ∈ zwd := zmem (List.mem_append_right _ (List.mem_append_right _ (List.mem_append_right _ (List.mem_append_right _ (List.mem_of_getElem? (i := 63) rfl))))) rfl
theorem ksX3_undoDepth : Cond.selects RX3 yX3_undoDepth yX3_undoDepth ∈ zwd := zmem (List.mem_append_right _ (List.mem_append_right _ (List.mem_append_right _ (List.mem_append_right _ (List.mem_of_getElem? (i := 64) rfl))))) rfl
theorem clL_7 : Cond.classLink RL 7 RX2 ∈ zwd := zmem (List.mem_append_right _ (List.mem_append_left _ (List.mem_of_getElem? (i := 7) rfl))) rfl
theorem kjX2 : Cond.instantiable RX2 11 ∈ zwd := zmem (List.mem_append_right _ (List.mem_append_left _ (List.mem_of_getElem? (i := 8) rfl))) rfl
theorem mlL_9 : Cond.methodLink RL 9 yX2_init ∈ zwd := zmem (List.mem_append_right _ (List.mem_append_left _ (List.mem_of_getElem? (i := 9) rfl))) rfl
theorem mlX2_1 : Cond.methodLink RX2 1 objectInit ∈ zwd := zmem (List.mem_append_right _ (List.mem_append_left _ (List.mem_of_getElem? (i := 12) rfl))) rfl
theorem clX2_17 : Cond.classLink RX2 17 RX1 ∈ zwd := zmem (List.mem_append_right _ (List.mem_append_left _ (List.mem_of_getElem? (i := 15) rfl))) rfl
theorem kjX1 : Cond.instantiable RX1 11 ∈ zwd := zmem (List.mem_append_right _ (List.mem_append_left _ (List.mem_of_getElem? (i := 16) rfl))) rfl
theorem mlX2_19 : Cond.methodLink RX2 19 yX1_init ∈ zwd := zmem (List.mem_append_right _ (List.mem_append_left _ (List.mem_of_getElem? (i := 17) rfl))) rfl
theorem mlX1_3 : Cond.methodLink RX1 3 objectInit ∈ zwd := zmem (List.mem_append_right _ (List.mem_append_left _ (List.mem_of_getElem? (i := 20) rfl))) rfl
theorem clX1_18 : Cond.classLink RX1 18 RX0 ∈ zwd := zmem (List.mem_append_right _ (List.mem_append_left _ (List.mem_of_getElem? (i := 21) rfl))) rfl
theorem aoX0 : Cond.arrayOver (.object RX0) ∈ lw_tbl := (List.mem_append_right _ (List.mem_append_left _ (List.mem_of_getElem? (i := 22) rfl)))
theorem kjX0 : Cond.instantiable RX0 9 ∈ zwd := zmem (List.mem_append_right _ (List.mem_append_left _ (List.mem_of_getElem? (i := 23) rfl))) rfl
theorem nlX1_33 : Cond.methodLinkNest RX1 33 yX0_init RX2 ∈ lw_tbl := (List.mem_append_right _ (List.mem_append_left _ (List.mem_of_getElem? (i := 24) rfl)))
theorem mlX0_3 : Cond.methodLink RX0 3 objectInit ∈ zwd := zmem (List.mem_append_right _ (List.mem_append_left _ (List.mem_of_getElem? (i := 27) rfl))) rfl
theorem flX0_22 : zfl RX0 22 0 0 := ⟨_, _, _, rfl, by decide, zmem (List.mem_append_right _ (List.mem_append_left _ (List.mem_of_getElem? (i := 28) rfl))) rfl⟩
theorem flX0_25 : zfl RX0 25 0 1 := ⟨_, _, _, rfl, by decide, zmem (List.mem_append_right _ (List.mem_append_left _ (List.mem_of_getElem? (i := 29) rfl))) rfl⟩
theorem flX0_28 : zfl RX0 28 0 2 := ⟨_, _, _, rfl, by decide, zmem (List.mem_append_right _ (List.mem_append_left _ (List.mem_of_getElem? (i := 30) rfl))) rfl⟩
theorem flX2_134 : zfl RX2 134 0 2 := ⟨_, _, _, rfl, by decide, zmem (List.mem_append_right _ (List.mem_append_left _ (List.mem_of_getElem? (i := 31) rfl))) rfl⟩
theorem flX0_31 : zfl RX0 31 0 3 := ⟨_, _, _, rfl, by decide, zmem (List.mem_append_right _ (List.mem_append_left _ (List.mem_of_getElem? (i := 32) rfl))) rfl⟩
theorem flX1_67 : zfl RX1 67 0 3 := ⟨_, _, _, rfl, by decide, zmem (List.mem_append_right _ (List.mem_append_left _ (List.mem_of_getElem? (i := 33) rfl))) rfl⟩
theorem flX2_137 : zfl RX2 137 0 3 := ⟨_, _, _, rfl, by decide, zmem (List.mem_append_right _ (List.mem_append_left _ (List.mem_of_getElem? (i := 34) rfl))) rfl⟩
theorem flX0_34 : zfl RX0 34 0 4 := ⟨_, _, _, rfl, by decide, zmem (List.mem_append_right _ (List.mem_append_left _ (List.mem_of_getElem? (i := 35) rfl))) rfl⟩
theorem flX1_74 : zfl RX1 74 0 4 := ⟨_, _, _, rfl, by decide, zmem (List.mem_append_right _ (List.mem_append_left _ (List.mem_of_getElem? (i := 36) rfl))) rfl⟩
theorem flX2_140 : zfl RX2 140 0 4 := ⟨_, _, _, rfl, by decide, zmem (List.mem_append_right _ (List.mem_append_left _ (List.mem_of_getElem? (i := 37) rfl))) rfl⟩
theorem flX0_9 : zfl RX0 9 0 5 := ⟨_, _, _, rfl, by decide, zmem (List.mem_append_right _ (List.mem_append_left _ (List.mem_of_getElem? (i := 38) rfl))) rfl⟩
theorem flX2_152 : zfl RX2 152 0 5 := ⟨_, _, _, rfl, by decide, zmem (List.mem_append_right _ (List.mem_append_left _ (List.mem_of_getElem? (i := 39) rfl))) rfl⟩
theorem flX0_37 : zfl RX0 37 0 6 := ⟨_, _, _, rfl, by decide, zmem (List.mem_append_right _ (List.mem_append_left _ (List.mem_of_getElem? (i := 40) rfl))) rfl⟩
theorem flX0_15 : zfl RX0 15 0 7 := ⟨_, _, _, rfl, by decide, zmem (List.mem_append_right _ (List.mem_append_left _ (List.mem_of_getElem? (i := 41) rfl))) rfl⟩
theorem flX2_149 : zfl RX2 149 0 7 := ⟨_, _, _, rfl, by decide, zmem (List.mem_append_right _ (List.mem_append_left _ (List.mem_of_getElem? (i := 42) rfl))) rfl⟩
theorem flX0_18 : zfl RX0 18 0 8 := ⟨_, _, _, rfl, by decide, zmem (List.mem_append_right _ (List.mem_append_left _ (List.mem_of_getElem? (i := 43) rfl))) rfl⟩
theorem flX2_143 : zfl RX2 143 0 8 := ⟨_, _, _, rfl, by decide, zmem (List.mem_append_right _ (List.mem_append_left _ (List.mem_of_getElem? (i := 44) rfl))) rfl⟩
theorem ac_int : Cond.arrayClass .int ∈ zwd := zmem (List.mem_append_right _ (List.mem_append_left _ (List.mem_of_getElem? (i := 64) rfl))) rfl
theorem ac_boolean : Cond.arrayClass .boolean ∈ zwd := zmem (List.mem_append_right _ (List.mem_append_left _ (List.mem_of_getElem? (i := 65) rfl))) rfl
theorem flX1_9 : zfl RX1 9 1 0 := ⟨_, _, _, rfl, by decide, zmem (List.mem_append_right _ (List.mem_append_left _ (List.mem_of_getElem? (i := 66) rfl))) rfl⟩
theorem flX2_113 : zfl RX2 113 1 0 := ⟨_, _, _, rfl, by decide, zmem (List.mem_append_right _ (List.mem_append_left _ (List.mem_of_getElem? (i := 67) rfl))) rfl⟩
theorem flX1_15 : zfl RX1 15 1 1 := ⟨_, _, _, rfl, by decide, zmem (List.mem_append_right _ (List.mem_append_left _ (List.mem_of_getElem? (i := 68) rfl))) rfl⟩
theorem flX2_78 : zfl RX2 78 1 1 := ⟨_, _, _, rfl, by decide, zmem (List.mem_append_right _ (List.mem_append_left _ (List.mem_of_getElem? (i := 69) rfl))) rfl⟩
theorem flX1_20 : zfl RX1 20 1 2 := ⟨_, _, _, rfl, by decide, zmem (List.mem_append_right _ (List.mem_append_left _ (List.mem_of_getElem? (i := 70) rfl))) rfl⟩
theorem flX2_125 : zfl RX2 125 1 2 := ⟨_, _, _, rfl, by decide, zmem (List.mem_append_right _ (List.mem_append_left _ (List.mem_of_getElem? (i := 71) rfl))) rfl⟩
theorem flX1_24 : zfl RX1 24 1 3 := ⟨_, _, _, rfl, by decide, zmem (List.mem_append_right _ (List.mem_append_left _ (List.mem_of_getElem? (i := 72) rfl))) rfl⟩
theorem flX2_122 : zfl RX2 122 1 3 := ⟨_, _, _, rfl, by decide, zmem (List.mem_append_right _ (List.mem_append_left _ (List.mem_of_getElem? (i := 73) rfl))) rfl⟩
theorem flX1_34 : zfl RX1 34 1 4 := ⟨_, _, _, rfl, by decide, zmem (List.mem_append_right _ (List.mem_append_left _ (List.mem_of_getElem? (i := 74) rfl))) rfl⟩
theorem flX2_116 : zfl RX2 116 1 4 := ⟨_, _, _, rfl, by decide, zmem (List.mem_append_right _ (List.mem_append_left _ (List.mem_of_getElem? (i := 75) rfl))) rfl⟩
theorem flX1_27 : zfl RX1 27 1 5 := ⟨_, _, _, rfl, by decide, zmem (List.mem_append_right _ (List.mem_append_left _ (List.mem_of_getElem? (i := 76) rfl))) rfl⟩
theorem flX1_48 : zfl RX1 48 1 6 := ⟨_, _, _, rfl, by decide, zmem (List.mem_append_right _ (List.mem_append_left _ (List.mem_of_getElem? (i := 77) rfl))) rfl⟩
theorem flX2_54 : zfl RX2 54 1 6 := ⟨_, _, _, rfl, by decide, zmem (List.mem_append_right _ (List.mem_append_left _ (List.mem_of_getElem? (i := 78) rfl))) rfl⟩
theorem flX1_30 : zfl RX1 30 1 7 := ⟨_, _, _, rfl, by decide, zmem (List.mem_append_right _ (List.mem_append_left _ (List.mem_of_getElem? (i := 79) rfl))) rfl⟩
theorem flX2_161 : zfl RX2 161 1 7 := ⟨_, _, _, rfl, by decide, zmem (List.mem_append_right _ (List.mem_append_left _ (List.mem_of_getElem? (i := 80) rfl))) rfl⟩
theorem flX1_51 : zfl RX1 51 1 8 := ⟨_, _, _, rfl, by decide, zmem (List.mem_append_right _ (List.mem_append_left _ (List.mem_of_getElem? (i := 81) rfl))) rfl⟩
theorem flX2_158 : zfl RX2 158 1 8 := ⟨_, _, _, rfl, by decide, zmem (List.mem_append_right _ (List.mem_append_left _ (List.mem_of_getElem? (i := 82) rfl))) rfl⟩
theorem flX1_54 : zfl RX1 54 1 9 := ⟨_, _, _, rfl, by decide, zmem (List.mem_append_right _ (List.mem_append_left _ (List.mem_of_getElem? (i := 83) rfl))) rfl⟩
theorem flX2_164 : zfl RX2 164 1 9 := ⟨_, _, _, rfl, by decide, zmem (List.mem_append_right _ (List.mem_append_left _ (List.mem_of_getElem? (i := 84) rfl))) rfl⟩
theorem flX1_57 : zfl RX1 57 1 10 := ⟨_, _, _, rfl, by decide, zmem (List.mem_append_right _ (List.mem_append_left _ (List.mem_of_getElem? (i := 85) rfl))) rfl⟩
theorem flX2_63 : zfl RX2 63 1 10 := ⟨_, _, _, rfl, by decide, zmem (List.mem_append_right _ (List.mem_append_left _ (List.mem_of_getElem? (i := 86) rfl))) rfl⟩
theorem aoX1 : Cond.arrayOver (.object RX1) ∈ lw_tbl := (List.mem_append_right _ (List.mem_append_left _ (List.mem_of_getElem? (i := 110) rfl)))
theorem flX2_9 : zfl RX2 9 2 0 := ⟨_, _, _, rfl, by decide, zmem (List.mem_append_right _ (List.mem_append_left _ (List.mem_of_getElem? (i := 111) rfl))) rfl⟩
theorem flX2_40 : zfl RX2 40 2 1 := ⟨_, _, _, rfl, by decide, zmem (List.mem_append_right _ (List.mem_append_left _ (List.mem_of_getElem? (i := 112) rfl))) rfl⟩
theorem flX2_13 : zfl RX2 13 2 2 := ⟨_, _, _, rfl, by decide, zmem (List.mem_append_right _ (List.mem_append_left _ (List.mem_of_getElem? (i := 113) rfl))) rfl⟩
theorem flX2_85 : zfl RX2 85 2 3 := ⟨_, _, _, rfl, by decide, zmem (List.mem_append_right _ (List.mem_append_left _ (List.mem_of_getElem? (i := 114) rfl))) rfl⟩
theorem flX2_20 : zfl RX2 20 2 4 := ⟨_, _, _, rfl, by decide, zmem (List.mem_append_right _ (List.mem_append_left _ (List.mem_of_getElem? (i := 115) rfl))) rfl⟩
theorem flX2_24 : zfl RX2 24 2 5 := ⟨_, _, _, rfl, by decide, zmem (List.mem_append_right _ (List.mem_append_left _ (List.mem_of_getElem? (i := 116) rfl))) rfl⟩
theorem flX2_88 : zfl RX2 88 2 6 := ⟨_, _, _, rfl, by decide, zmem (List.mem_append_right _ (List.mem_append_left _ (List.mem_of_getElem? (i := 117) rfl))) rfl⟩
theorem flX2_28 : zfl RX2 28 2 7 := ⟨_, _, _, rfl, by decide, zmem (List.mem_append_right _ (List.mem_append_left _ (List.mem_of_getElem? (i := 118) rfl))) rfl⟩
theorem flX2_31 : zfl RX2 31 2 8 := ⟨_, _, _, rfl, by decide, zmem (List.mem_append_right _ (List.mem_append_left _ (List.mem_of_getElem? (i := 119) rfl))) rfl⟩
theorem flX2_34 : zfl RX2 34 2 9 := ⟨_, _, _, rfl, by decide, zmem (List.mem_append_right _ (List.mem_append_left _ (List.mem_of_getElem? (i := 120) rfl))) rfl⟩
theorem flX2_37 : zfl RX2 37 2 10 := ⟨_, _, _, rfl, by decide, zmem (List.mem_append_right _ (List.mem_append_left _ (List.mem_of_getElem? (i := 121) rfl))) rfl⟩
theorem mlL_13 : Cond.methodLink RL 13 yX2_append ∈ zwd := zmem (List.mem_append_right _ (List.mem_append_left _ (List.mem_of_getElem? (i := 145) rfl))) rfl
theorem mlL_18 : Cond.methodLink RL 18 yX2_clearText ∈ zwd := zmem (List.mem_append_right _ (List.mem_append_left _ (List.mem_of_getElem? (i := 149) rfl))) rfl
theorem mlL_23 : Cond.methodLink RL 23 yX2_load ∈ zwd := zmem (List.mem_append_right _ (List.mem_append_left _ (List.mem_of_getElem? (i := 153) rfl))) rfl
theorem mlX2_44 : Cond.methodLink RX2 44 yX2_errorPosition ∈ zwd := zmem (List.mem_append_right _ (List.mem_append_left _ (List.mem_of_getElem? (i := 157) rfl))) rfl
theorem mlX2_74 : Cond.methodLink RX2 74 yX2_isCode ∈ zwd := zmem (List.mem_append_right _ (List.mem_append_left _ (List.mem_of_getElem? (i := 161) rfl))) rfl
theorem mlX2_48 : Cond.methodLink RX2 48 yX2_keepForUndo ∈ zwd := zmem (List.mem_append_right _ (List.mem_append_left _ (List.mem_of_getElem? (i := 164) rfl))) rfl
theorem mlX2_91 : Cond.methodLink RX2 91 yX1_copyFrom ∈ zwd := zmem (List.mem_append_right _ (List.mem_append_left _ (List.mem_of_getElem? (i := 168) rfl))) rfl
theorem mlX1_38 : Cond.methodLink RX1 38 arraycopyName ∈ zwd := zmem (List.mem_append_right _ (List.mem_append_left _ (List.mem_of_getElem? (i := 172) rfl))) rfl
theorem kv_arraycopy : Cond.native arraycopyName ∈ zwd := zmem (List.mem_append_right _ (List.mem_append_left _ (List.mem_of_getElem? (i := 174) rfl))) rfl
theorem mlX1_44 : Cond.methodLink RX1 44 yX0_copyFrom ∈ zwd := zmem (List.mem_append_right _ (List.mem_append_left _ (List.mem_of_getElem? (i := 175) rfl))) rfl
theorem mlX0_40 : Cond.methodLink RX0 40 arraycopyName ∈ zwd := zmem (List.mem_append_right _ (List.mem_append_left _ (List.mem_of_getElem? (i := 179) rfl))) rfl
theorem mlX2_51 : Cond.methodLink RX2 51 yX2_readProgram ∈ zwd := zmem (List.mem_append_right _ (List.mem_append_left _ (List.mem_of_getElem? (i := 180) rfl))) rfl
theorem mlX2_70 : Cond.methodLink RX2 70 yX2_isCell ∈ zwd := zmem (List.mem_append_right _ (List.mem_append_left _ (List.mem_of_getElem? (i := 184) rfl))) rfl
theorem mlX2_57 : Cond.methodLink RX2 57 yX1_beginRun ∈ zwd := zmem (List.mem_append_right _ (List.mem_append_left _ (List.mem_of_getElem? (i := 187) rfl))) rfl
theorem mlX1_64 : Cond.methodLink RX1 64 yX0_reset ∈ zwd := zmem (List.mem_append_right _ (List.mem_append_left _ (List.mem_of_getElem? (i := 191) rfl))) rfl
theorem mlX2_60 : Cond.methodLink RX2 60 yX1_countFilledCells ∈ zwd := zmem (List.mem_append_right _ (List.mem_append_left _ (List.mem_of_getElem? (i := 195) rfl))) rfl
theorem mlL_27 : Cond.methodLink RL 27 yX2_rewind ∈ zwd := zmem (List.mem_append_right _ (List.mem_append_left _ (List.mem_of_getElem? (i := 199) rfl))) rfl
theorem mlL_31 : Cond.methodLink RL 31 yX2_feed ∈ zwd := zmem (List.mem_append_right _ (List.mem_append_left _ (List.mem_of_getElem? (i := 203) rfl))) rfl
theorem mlX2_66 : Cond.methodLink RX2 66 yX1_addInput ∈ zwd := zmem (List.mem_append_right _ (List.mem_append_left _ (List.mem_of_getElem? (i := 207) rfl))) rfl
theorem mlL_35 : Cond.methodLink RL 35 yX2_poke ∈ zwd := zmem (List.mem_append_right _ (List.mem_append_left _ (List.mem_of_getElem? (i := 211) rfl))) rfl
theorem mlL_40 : Cond.methodLink RL 40 yX2_tick ∈ zwd := zmem (List.mem_append_right _ (List.mem_append_left _ (List.mem_of_getElem? (i := 215) rfl))) rfl
theorem mlX2_81 : Cond.methodLink RX2 81 yX2_advance ∈ zwd := zmem (List.mem_append_right _ (List.mem_append_left _ (List.mem_of_getElem? (i := 219) rfl))) rfl
theorem mlX2_95 : Cond.methodLink RX2 95 yX2_isTickLimit ∈ zwd := zmem (List.mem_append_right _ (List.mem_append_left _ (List.mem_of_getElem? (i := 223) rfl))) rfl
theorem mlX2_98 : Cond.methodLink RX2 98 yX1_isHalted ∈ zwd := zmem (List.mem_append_right _ (List.mem_append_left _ (List.mem_of_getElem? (i := 226) rfl))) rfl
theorem mlX2_102 : Cond.methodLink RX2 102 yX1_performTick ∈ zwd := zmem (List.mem_append_right _ (List.mem_append_left _ (List.mem_of_getElem? (i := 230) rfl))) rfl
theorem mlX1_70 : Cond.methodLink RX1 70 yX1_takeTurn ∈ zwd := zmem (List.mem_append_right _ (List.mem_append_left _ (List.mem_of_getElem? (i := 234) rfl))) rfl
theorem mlX1_77 : Cond.methodLink RX1 77 yX0_cell ∈ zwd := zmem (List.mem_append_right _ (List.mem_append_left _ (List.mem_of_getElem? (i := 238) rfl))) rfl
theorem mlX1_81 : Cond.methodLink RX1 81 yX1_fetchCell ∈ zwd := zmem (List.mem_append_right _ (List.mem_append_right _ (List.mem_append_left _ (List.mem_of_getElem? (i := 2) rfl)))) rfl
theorem mlX1_87 : Cond.methodLink RX1 87 yX0_pop ∈ zwd := zmem (List.mem_append_right _ (List.mem_append_right _ (List.mem_append_left _ (List.mem_of_getElem? (i := 6) rfl)))) rfl
theorem mlX1_111 : Cond.methodLink RX1 111 yX1_wrappedCell ∈ zwd := zmem (List.mem_append_right _ (List.mem_append_right _ (List.mem_append_left _ (List.mem_of_getElem? (i := 10) rfl)))) rfl
theorem mlX1_105 : Cond.methodLink RX1 105 yJ9_floorMod_7cf53 ∈ zwd := zmem (List.mem_append_right _ (List.mem_append_right _ (List.mem_append_left _ (List.mem_of_getElem? (i := 13) rfl)))) rfl
theorem mlX1_114 : Cond.methodLink RX1 114 yX0_push ∈ zwd := zmem (List.mem_append_right _ (List.mem_append_right _ (List.mem_append_left _ (List.mem_of_getElem? (i := 16) rfl)))) rfl
theorem mlX1_84 : Cond.methodLink RX1 84 yX1_storeCell ∈ zwd := zmem (List.mem_append_right _ (List.mem_append_right _ (List.mem_append_left _ (List.mem_of_getElem? (i := 20) rfl)))) rfl
theorem nlX1_117 : Cond.methodLinkNest RX1 117 yX2_isCode RX2 ∈ lw_tbl := (List.mem_append_right _ (List.mem_append_right _ (List.mem_append_left _ (List.mem_of_getElem? (i := 24) rfl))))
theorem mlX1_90 : Cond.methodLink RX1 90 yX1_addOutput ∈ zwd := zmem (List.mem_append_right _ (List.mem_append_right _ (List.mem_append_left _ (List.mem_of_getElem? (i := 25) rfl)))) rfl
theorem mlX1_93 : Cond.methodLink RX1 93 yX1_takeInput ∈ zwd := zmem (List.mem_append_right _ (List.mem_append_right _ (List.mem_append_left _ (List.mem_of_getElem? (i := 29) rfl)))) rfl
theorem mlX1_121 : Cond.methodLink RX1 121 yX0_turn ∈ zwd := zmem (List.mem_append_right _ (List.mem_append_right _ (List.mem_append_left _ (List.mem_of_getElem? (i := 33) rfl)))) rfl
theorem mlX1_96 : Cond.methodLink RX1 96 yX1_split ∈ zwd := zmem (List.mem_append_right _ (List.mem_append_right _ (List.mem_append_left _ (List.mem_of_getElem? (i := 37) rfl)))) rfl
theorem mlX1_102 : Cond.methodLink RX1 102 yX0_step ∈ zwd := zmem (List.mem_append_right _ (List.mem_append_right _ (List.mem_append_left _ (List.mem_of_getElem? (i := 41) rfl)))) rfl
theorem mlX1_99 : Cond.methodLink RX1 99 yX0_perform ∈ zwd := zmem (List.mem_append_right _ (List.mem_append_right _ (List.mem_append_left _ (List.mem_of_getElem? (i := 45) rfl)))) rfl
theorem mlX0_46 : Cond.methodLink RX0 46 yX0_push ∈ zwd := zmem (List.mem_append_right _ (List.mem_append_right _ (List.mem_append_left _ (List.mem_of_getElem? (i := 49) rfl)))) rfl
theorem mlX0_50 : Cond.methodLink RX0 50 yX0_pop ∈ zwd := zmem (List.mem_append_right _ (List.mem_append_right _ (List.mem_append_left _ (List.mem_of_getElem? (i := 50) rfl)))) rfl
theorem mlX0_54 : Cond.methodLink RX0 54 yX0_combine ∈ zwd := zmem (List.mem_append_right _ (List.mem_append_right _ (List.mem_append_left _ (List.mem_of_getElem? (i := 51) rfl)))) rfl
theorem mlX0_58 : Cond.methodLink RX0 58 yX0_openStack ∈ zwd := zmem (List.mem_append_right _ (List.mem_append_right _ (List.mem_append_left _ (List.mem_of_getElem? (i := 54) rfl)))) rfl
theorem mlX0_82 : Cond.methodLink RX0 82 yX0_movable ∈ zwd := zmem (List.mem_append_right _ (List.mem_append_right _ (List.mem_append_left _ (List.mem_of_getElem? (i := 58) rfl)))) rfl
theorem mlX0_61 : Cond.methodLink RX0 61 yX0_closeStack ∈ zwd := zmem (List.mem_append_right _ (List.mem_append_right _ (List.mem_append_left _ (List.mem_of_getElem? (i := 62) rfl)))) rfl
theorem mlX0_76 : Cond.methodLink RX0 76 yX0_turn ∈ zwd := zmem (List.mem_append_right _ (List.mem_append_right _ (List.mem_append_left _ (List.mem_of_getElem? (i := 66) rfl)))) rfl
theorem mlX0_64 : Cond.methodLink RX0 64 yJ9_min_7cf53 ∈ zwd := zmem (List.mem_append_right _ (List.mem_append_right _ (List.mem_append_left _ (List.mem_of_getElem? (i := 67) rfl)))) rfl
theorem mlX0_70 : Cond.methodLink RX0 70 yJ9_max_7cf53 ∈ zwd := zmem (List.mem_append_right _ (List.mem_append_right _ (List.mem_append_left _ (List.mem_of_getElem? (i := 70) rfl)))) rfl
theorem mlX0_73 : Cond.methodLink RX0 73 yX0_steer ∈ zwd := zmem (List.mem_append_right _ (List.mem_append_right _ (List.mem_append_left _ (List.mem_of_getElem? (i := 73) rfl)))) rfl
theorem mlX0_79 : Cond.methodLink RX0 79 yX0_step ∈ zwd := zmem (List.mem_append_right _ (List.mem_append_right _ (List.mem_append_left _ (List.mem_of_getElem? (i := 77) rfl)))) rfl
theorem mlX2_167 : Cond.methodLink RX2 167 yX2_atBreakpoint ∈ zwd := zmem (List.mem_append_right _ (List.mem_append_right _ (List.mem_append_left _ (List.mem_of_getElem? (i := 78) rfl)))) rfl
theorem mlX2_129 : Cond.methodLink RX2 129 yX0_cell ∈ zwd := zmem (List.mem_append_right _ (List.mem_append_right _ (List.mem_append_left _ (List.mem_of_getElem? (i := 82) rfl)))) rfl
theorem mlL_44 : Cond.methodLink RL 44 yX2_run ∈ zwd := zmem (List.mem_append_right _ (List.mem_append_right _ (List.mem_append_left _ (List.mem_of_getElem? (i := 83) rfl)))) rfl
theorem mlL_48 : Cond.methodLink RL 48 yX2_setBreakpoint ∈ zwd := zmem (List.mem_append_right _ (List.mem_append_right _ (List.mem_append_left _ (List.mem_of_getElem? (i := 87) rfl)))) rfl
theorem mlL_52 : Cond.methodLink RL 52 yX2_undo ∈ zwd := zmem (List.mem_append_right _ (List.mem_append_right _ (List.mem_append_left _ (List.mem_of_getElem? (i := 91) rfl)))) rfl
theorem mlL_56 : Cond.methodLink RL 56 yX2_ticksToHalt ∈ zwd := zmem (List.mem_append_right _ (List.mem_append_right _ (List.mem_append_left _ (List.mem_of_getElem? (i := 95) rfl)))) rfl
theorem mlL_60 : Cond.methodLink RL 60 yX2_cycleStart ∈ zwd := zmem (List.mem_append_right _ (List.mem_append_right _ (List.mem_append_left _ (List.mem_of_getElem? (i := 99) rfl)))) rfl
theorem mlX2_105 : Cond.methodLink RX2 105 yX2_findPeriod ∈ zwd := zmem (List.mem_append_right _ (List.mem_append_right _ (List.mem_append_left _ (List.mem_of_getElem? (i := 103) rfl)))) rfl
theorem mlX2_170 : Cond.methodLink RX2 170 yX1_hasConfigurationOf ∈ zwd := zmem (List.mem_append_right _ (List.mem_append_right _ (List.mem_append_left _ (List.mem_of_getElem? (i := 107) rfl)))) rfl
theorem mlX1_60 : Cond.methodLink RX1 60 yX0_isLike ∈ zwd := zmem (List.mem_append_right _ (List.mem_append_right _ (List.mem_append_left _ (List.mem_of_getElem? (i := 111) rfl)))) rfl
theorem mlX2_109 : Cond.methodLink RX2 109 yX2_findCycleEntry ∈ zwd := zmem (List.mem_append_right _ (List.mem_append_right _ (List.mem_append_left _ (List.mem_of_getElem? (i := 115) rfl)))) rfl
theorem mlL_64 : Cond.methodLink RL 64 yX2_cycleLength ∈ zwd := zmem (List.mem_append_right _ (List.mem_append_right _ (List.mem_append_left _ (List.mem_of_getElem? (i := 119) rfl)))) rfl
theorem mlL_68 : Cond.methodLink RL 68 yX2_cellAt ∈ zwd := zmem (List.mem_append_right _ (List.mem_append_right _ (List.mem_append_left _ (List.mem_of_getElem? (i := 123) rfl)))) rfl
theorem mlL_73 : Cond.methodLink RL 73 yX2_changedCells ∈ zwd := zmem (List.mem_append_right _ (List.mem_append_right _ (List.mem_append_left _ (List.mem_of_getElem? (i := 127) rfl)))) rfl
theorem mlL_77 : Cond.methodLink RL 77 yX2_pointerCount ∈ zwd := zmem (List.mem_append_right _ (List.mem_append_right _ (List.mem_append_left _ (List.mem_of_getElem? (i := 131) rfl)))) rfl
theorem mlL_81 : Cond.methodLink RL 81 yX2_pointerAt ∈ zwd := zmem (List.mem_append_right _ (List.mem_append_right _ (List.mem_append_left _ (List.mem_of_getElem? (i := 135) rfl)))) rfl
theorem mlX2_119 : Cond.methodLink RX2 119 yX2_isPointer ∈ zwd := zmem (List.mem_append_right _ (List.mem_append_right _ (List.mem_append_left _ (List.mem_of_getElem? (i := 139) rfl)))) rfl
theorem mlL_85 : Cond.methodLink RL 85 yX2_position ∈ zwd := zmem (List.mem_append_right _ (List.mem_append_right _ (List.mem_append_left _ (List.mem_of_getElem? (i := 143) rfl)))) rfl
theorem mlL_89 : Cond.methodLink RL 89 yX2_direction ∈ zwd := zmem (List.mem_append_right _ (List.mem_append_right _ (List.mem_append_left _ (List.mem_of_getElem? (i := 147) rfl)))) rfl
theorem mlL_93 : Cond.methodLink RL 93 yX2_status ∈ zwd := zmem (List.mem_append_right _ (List.mem_append_right _ (List.mem_append_left _ (List.mem_of_getElem? (i := 151) rfl)))) rfl
theorem mlL_97 : Cond.methodLink RL 97 yX2_sleep ∈ zwd := zmem (List.mem_append_right _ (List.mem_append_right _ (List.mem_append_left _ (List.mem_of_getElem? (i := 155) rfl)))) rfl
theorem mlL_101 : Cond.methodLink RL 101 yX2_stackCount ∈ zwd := zmem (List.mem_append_right _ (List.mem_append_right _ (List.mem_append_left _ (List.mem_of_getElem? (i := 159) rfl)))) rfl
theorem mlL_105 : Cond.methodLink RL 105 yX2_stackSize ∈ zwd := zmem (List.mem_append_right _ (List.mem_append_right _ (List.mem_append_left _ (List.mem_of_getElem? (i := 163) rfl)))) rfl
theorem mlX2_146 : Cond.methodLink RX2 146 yX2_isStack ∈ zwd := zmem (List.mem_append_right _ (List.mem_append_right _ (List.mem_append_left _ (List.mem_of_getElem? (i := 167) rfl)))) rfl
theorem mlL_109 : Cond.methodLink RL 109 yX2_valueAt ∈ zwd := zmem (List.mem_append_right _ (List.mem_append_right _ (List.mem_append_left _ (List.mem_of_getElem? (i := 171) rfl)))) rfl
theorem mlX2_155 : Cond.methodLink RX2 155 yX0_stackBegin ∈ zwd := zmem (List.mem_append_right _ (List.mem_append_right _ (List.mem_append_left _ (List.mem_of_getElem? (i := 175) rfl)))) rfl
theorem mlL_113 : Cond.methodLink RL 113 yX2_inputSize ∈ zwd := zmem (List.mem_append_right _ (List.mem_append_right _ (List.mem_append_left _ (List.mem_of_getElem? (i := 179) rfl)))) rfl
theorem mlL_117 : Cond.methodLink RL 117 yX2_outputSize ∈ zwd := zmem (List.mem_append_right _ (List.mem_append_right _ (List.mem_append_left _ (List.mem_of_getElem? (i := 183) rfl)))) rfl
theorem mlL_121 : Cond.methodLink RL 121 yX2_outputAt ∈ zwd := zmem (List.mem_append_right _ (List.mem_append_right _ (List.mem_append_left _ (List.mem_of_getElem? (i := 187) rfl)))) rfl
theorem mlL_125 : Cond.methodLink RL 125 yX2_outputTotal ∈ zwd := zmem (List.mem_append_right _ (List.mem_append_right _ (List.mem_append_left _ (List.mem_of_getElem? (i := 191) rfl)))) rfl
theorem mlL_129 : Cond.methodLink RL 129 yX2_tickCount ∈ zwd := zmem (List.mem_append_right _ (List.mem_append_right _ (List.mem_append_left _ (List.mem_of_getElem? (i := 195) rfl)))) rfl
theorem mlL_133 : Cond.methodLink RL 133 yX2_save ∈ zwd := zmem (List.mem_append_right _ (List.mem_append_right _ (List.mem_append_left _ (List.mem_of_getElem? (i := 199) rfl)))) rfl
theorem mlL_137 : Cond.methodLink RL 137 yX2_restore ∈ zwd := zmem (List.mem_append_right _ (List.mem_append_right _ (List.mem_append_left _ (List.mem_of_getElem? (i := 203) rfl)))) rfl
theorem mlL_141 : Cond.methodLink RL 141 yX2_undoDepth ∈ zwd := zmem (List.mem_append_right _ (List.mem_append_right _ (List.mem_append_left _ (List.mem_of_getElem? (i := 207) rfl)))) rfl
theorem clL_10 : Cond.classLink RL 10 RX3 ∈ zwd := zmem (List.mem_append_right _ (List.mem_append_right _ (List.mem_append_left _ (List.mem_of_getElem? (i := 211) rfl)))) rfl
theorem kjX3 : Cond.instantiable RX3 14 ∈ zwd := zmem (List.mem_append_right _ (List.mem_append_right _ (List.mem_append_left _ (List.mem_of_getElem? (i := 212) rfl)))) rfl
theorem mlL_12 : Cond.methodLink RL 12 yX3_init ∈ zwd := zmem (List.mem_append_right _ (List.mem_append_right _ (List.mem_append_left _ (List.mem_of_getElem? (i := 213) rfl)))) rfl
theorem mlX3_1 : Cond.methodLink RX3 1 objectInit ∈ zwd := zmem (List.mem_append_right _ (List.mem_append_right _ (List.mem_append_left _ (List.mem_of_getElem? (i := 216) rfl)))) rfl
theorem mlX3_41 : Cond.methodLink RX3 41 yX3_begin ∈ zwd := zmem (List.mem_append_right _ (List.mem_append_right _ (List.mem_append_left _ (List.mem_of_getElem? (i := 217) rfl)))) rfl
theorem flX3_7 : zfl RX3 7 3 0 := ⟨_, _, _, rfl, by decide, zmem (List.mem_append_right _ (List.mem_append_right _ (List.mem_append_left _ (List.mem_of_getElem? (i := 221) rfl)))) rfl⟩
theorem flX3_13 : zfl RX3 13 3 1 := ⟨_, _, _, rfl, by decide, zmem (List.mem_append_right _ (List.mem_append_right _ (List.mem_append_left _ (List.mem_of_getElem? (i := 222) rfl)))) rfl⟩
theorem flX3_16 : zfl RX3 16 3 2 := ⟨_, _, _, rfl, by decide, zmem (List.mem_append_right _ (List.mem_append_right _ (List.mem_append_left _ (List.mem_of_getElem? (i := 223) rfl)))) rfl⟩
theorem flX3_19 : zfl RX3 19 3 3 := ⟨_, _, _, rfl, by decide, zmem (List.mem_append_right _ (List.mem_append_right _ (List.mem_append_left _ (List.mem_of_getElem? (i := 224) rfl)))) rfl⟩
theorem flX3_22 : zfl RX3 22 3 4 := ⟨_, _, _, rfl, by decide, zmem (List.mem_append_right _ (List.mem_append_right _ (List.mem_append_left _ (List.mem_of_getElem? (i := 225) rfl)))) rfl⟩
theorem flX3_48 : zfl RX3 48 3 5 := ⟨_, _, _, rfl, by decide, zmem (List.mem_append_right _ (List.mem_append_right _ (List.mem_append_left _ (List.mem_of_getElem? (i := 226) rfl)))) rfl⟩
theorem flX3_25 : zfl RX3 25 3 6 := ⟨_, _, _, rfl, by decide, zmem (List.mem_append_right _ (List.mem_append_right _ (List.mem_append_left _ (List.mem_of_getElem? (i := 227) rfl)))) rfl⟩
theorem flX3_28 : zfl RX3 28 3 7 := ⟨_, _, _, rfl, by decide, zmem (List.mem_append_right _ (List.mem_append_right _ (List.mem_append_left _ (List.mem_of_getElem? (i := 228) rfl)))) rfl⟩
theorem flX3_32 : zfl RX3 32 3 8 := ⟨_, _, _, rfl, by decide, zmem (List.mem_append_right _ (List.mem_append_right _ (List.mem_append_left _ (List.mem_of_getElem? (i := 229) rfl)))) rfl⟩
theorem flX3_35 : zfl RX3 35 3 9 := ⟨_, _, _, rfl, by decide, zmem (List.mem_append_right _ (List.mem_append_right _ (List.mem_append_left _ (List.mem_of_getElem? (i := 230) rfl)))) rfl⟩
theorem flX3_52 : zfl RX3 52 3 10 := ⟨_, _, _, rfl, by decide, zmem (List.mem_append_right _ (List.mem_append_right _ (List.mem_append_left _ (List.mem_of_getElem? (i := 231) rfl)))) rfl⟩
theorem flX3_38 : zfl RX3 38 3 11 := ⟨_, _, _, rfl, by decide, zmem (List.mem_append_right _ (List.mem_append_right _ (List.mem_append_left _ (List.mem_of_getElem? (i := 232) rfl)))) rfl⟩
theorem flX3_170 : zfl RX3 170 3 12 := ⟨_, _, _, rfl, by decide, zmem (List.mem_append_right _ (List.mem_append_right _ (List.mem_append_left _ (List.mem_of_getElem? (i := 233) rfl)))) rfl⟩
theorem flX3_173 : zfl RX3 173 3 13 := ⟨_, _, _, rfl, by decide, zmem (List.mem_append_right _ (List.mem_append_right _ (List.mem_append_left _ (List.mem_of_getElem? (i := 234) rfl)))) rfl⟩
theorem mlL_55 : Cond.methodLink RL 55 yX3_undo ∈ zwd := zmem (List.mem_append_right _ (List.mem_append_right _ (List.mem_append_right _ (List.mem_append_left _ (List.mem_of_getElem? (i := 24) rfl))))) rfl
theorem mlL_17 : Cond.methodLink RL 17 yX3_append ∈ zwd := zmem (List.mem_append_right _ (List.mem_append_right _ (List.mem_append_right _ (List.mem_append_left _ (List.mem_of_getElem? (i := 28) rfl))))) rfl
theorem mlX3_44 : Cond.methodLink RX3 44 yX3_in ∈ zwd := zmem (List.mem_append_right _ (List.mem_append_right _ (List.mem_append_right _ (List.mem_append_left _ (List.mem_of_getElem? (i := 32) rfl))))) rfl
theorem mlL_22 : Cond.methodLink RL 22 yX3_clearText ∈ zwd := zmem (List.mem_append_right _ (List.mem_append_right _ (List.mem_append_right _ (List.mem_append_left _ (List.mem_of_getElem? (i := 35) rfl))))) rfl
theorem mlL_26 : Cond.methodLink RL 26 yX3_load ∈ zwd := zmem (List.mem_append_right _ (List.mem_append_right _ (List.mem_append_right _ (List.mem_append_left _ (List.mem_of_getElem? (i := 39) rfl))))) rfl
theorem mlX3_55 : Cond.methodLink RX3 55 yX3_errorPosition ∈ zwd := zmem (List.mem_append_right _ (List.mem_append_right _ (List.mem_append_right _ (List.mem_append_left _ (List.mem_of_getElem? (i := 43) rfl))))) rfl
theorem mlX3_59 : Cond.methodLink RX3 59 yX3_remember ∈ zwd := zmem (List.mem_append_right _ (List.mem_append_right _ (List.mem_append_right _ (List.mem_append_left _ (List.mem_of_getElem? (i := 47) rfl))))) rfl
theorem mlX3_62 : Cond.methodLink RX3 62 yX3_saveBefore ∈ zwd := zmem (List.mem_append_right _ (List.mem_append_right _ (List.mem_append_right _ (List.mem_append_left _ (List.mem_of_getElem? (i := 51) rfl))))) rfl
theorem mlL_30 : Cond.methodLink RL 30 yX3_rewind ∈ zwd := zmem (List.mem_append_right _ (List.mem_append_right _ (List.mem_append_right _ (List.mem_append_left _ (List.mem_of_getElem? (i := 55) rfl))))) rfl
theorem mlL_34 : Cond.methodLink RL 34 yX3_feed ∈ zwd := zmem (List.mem_append_right _ (List.mem_append_right _ (List.mem_append_right _ (List.mem_append_left _ (List.mem_of_getElem? (i := 59) rfl))))) rfl
theorem mlL_39 : Cond.methodLink RL 39 yX3_poke ∈ zwd := zmem (List.mem_append_right _ (List.mem_append_right _ (List.mem_append_right _ (List.mem_append_left _ (List.mem_of_getElem? (i := 63) rfl))))) rfl
theorem mlX3_65 : Cond.methodLink RX3 65 yX3_isCell ∈ zwd := zmem (List.mem_append_right _ (List.mem_append_right _ (List.mem_append_right _ (List.mem_append_left _ (List.mem_of_getElem? (i := 67) rfl))))) rfl
theorem mlL_43 : Cond.methodLink RL 43 yX3_tick ∈ zwd := zmem (List.mem_append_right _ (List.mem_append_right _ (List.mem_append_right _ (List.mem_append_left _ (List.mem_of_getElem? (i := 70) rfl))))) rfl
theorem mlX3_154 : Cond.methodLink RX3 154 yX3_perform ∈ zwd := zmem (List.mem_append_right _ (List.mem_append_right _ (List.mem_append_right _ (List.mem_append_left _ (List.mem_of_getElem? (i := 74) rfl))))) rfl
theorem mlX3_144 : Cond.methodLink RX3 144 yX3_isHalted ∈ zwd := zmem (List.mem_append_right _ (List.mem_append_right _ (List.mem_append_right _ (List.mem_append_left _ (List.mem_of_getElem? (i := 78) rfl))))) rfl
theorem mlX3_69 : Cond.methodLink RX3 69 yX3_of ∈ zwd := zmem (List.mem_append_right _ (List.mem_append_right _ (List.mem_append_right _ (List.mem_append_left _ (List.mem_of_getElem? (i := 82) rfl))))) rfl
theorem mlX3_148 : Cond.methodLink RX3 148 yX3_step ∈ zwd := zmem (List.mem_append_right _ (List.mem_append_right _ (List.mem_append_right _ (List.mem_append_left _ (List.mem_of_getElem? (i := 86) rfl))))) rfl
theorem mlX3_141 : Cond.methodLink RX3 141 yX3_takeTurn ∈ zwd := zmem (List.mem_append_right _ (List.mem_append_right _ (List.mem_append_right _ (List.mem_append_left _ (List.mem_of_getElem? (i := 90) rfl))))) rfl
theorem mlX3_80 : Cond.methodLink RX3 80 yX3_put ∈ zwd := zmem (List.mem_append_right _ (List.mem_append_right _ (List.mem_append_right _ (List.mem_append_left _ (List.mem_of_getElem? (i := 94) rfl))))) rfl
theorem mlX3_138 : Cond.methodLink RX3 138 yX3_execute ∈ zwd := zmem (List.mem_append_right _ (List.mem_append_right _ (List.mem_append_right _ (List.mem_append_left _ (List.mem_of_getElem? (i := 98) rfl))))) rfl
theorem mlX3_97 : Cond.methodLink RX3 97 yX3_push ∈ zwd := zmem (List.mem_append_right _ (List.mem_append_right _ (List.mem_append_right _ (List.mem_append_left _ (List.mem_of_getElem? (i := 102) rfl))))) rfl
theorem mlX3_77 : Cond.methodLink RX3 77 yX3_heldBy ∈ zwd := zmem (List.mem_append_right _ (List.mem_append_right _ (List.mem_append_right _ (List.mem_append_left _ (List.mem_of_getElem? (i := 106) rfl))))) rfl
theorem mlX3_73 : Cond.methodLink RX3 73 yX3_current ∈ zwd := zmem (List.mem_append_right _ (List.mem_append_right _ (List.mem_append_right _ (List.mem_append_left _ (List.mem_of_getElem? (i := 110) rfl))))) rfl
theorem mlX3_87 : Cond.methodLink RX3 87 yX3_pop ∈ zwd := zmem (List.mem_append_right _ (List.mem_append_right _ (List.mem_append_right _ (List.mem_append_left _ (List.mem_of_getElem? (i := 114) rfl))))) rfl
theorem mlX3_107 : Cond.methodLink RX3 107 yX3_operate ∈ zwd := zmem (List.mem_append_right _ (List.mem_append_right _ (List.mem_append_right _ (List.mem_append_left _ (List.mem_of_getElem? (i := 118) rfl))))) rfl
theorem mlX3_111 : Cond.methodLink RX3 111 yX3_duplicate ∈ zwd := zmem (List.mem_append_right _ (List.mem_append_right _ (List.mem_append_right _ (List.mem_append_left _ (List.mem_of_getElem? (i := 121) rfl))))) rfl
theorem mlX3_114 : Cond.methodLink RX3 114 yX3_swapTop ∈ zwd := zmem (List.mem_append_right _ (List.mem_append_right _ (List.mem_append_right _ (List.mem_append_left _ (List.mem_of_getElem? (i := 125) rfl))))) rfl
theorem mlX3_93 : Cond.methodLink RX3 93 yX3_turn ∈ zwd := zmem (List.mem_append_right _ (List.mem_append_right _ (List.mem_append_right _ (List.mem_append_left _ (List.mem_of_getElem? (i := 129) rfl))))) rfl
theorem mlX3_100 : Cond.methodLink RX3 100 yX3_move ∈ zwd := zmem (List.mem_append_right _ (List.mem_append_right _ (List.mem_append_right _ (List.mem_append_left _ (List.mem_of_getElem? (i := 133) rfl))))) rfl
theorem mlX3_117 : Cond.methodLink RX3 117 yX3_fetch ∈ zwd := zmem (List.mem_append_right _ (List.mem_append_right _ (List.mem_append_right _ (List.mem_append_left _ (List.mem_of_getElem? (i := 137) rfl))))) rfl
theorem mlX3_104 : Cond.methodLink RX3 104 yX3_cell ∈ zwd := zmem (List.mem_append_right _ (List.mem_append_right _ (List.mem_append_right _ (List.mem_append_left _ (List.mem_of_getElem? (i := 141) rfl))))) rfl
theorem mlX3_84 : Cond.methodLink RX3 84 yX3_modulo ∈ zwd := zmem (List.mem_append_right _ (List.mem_append_right _ (List.mem_append_right _ (List.mem_append_left _ (List.mem_of_getElem? (i := 144) rfl))))) rfl
theorem mlX3_120 : Cond.methodLink RX3 120 yX3_store ∈ zwd := zmem (List.mem_append_right _ (List.mem_append_right _ (List.mem_append_right _ (List.mem_append_left _ (List.mem_of_getElem? (i := 147) rfl))))) rfl
theorem mlX3_123 : Cond.methodLink RX3 123 yX3_output ∈ zwd := zmem (List.mem_append_right _ (List.mem_append_right _ (List.mem_append_right _ (List.mem_append_left _ (List.mem_of_getElem? (i := 151) rfl))))) rfl
theorem mlX3_126 : Cond.methodLink RX3 126 yX3_input ∈ zwd := zmem (List.mem_append_right _ (List.mem_append_right _ (List.mem_append_right _ (List.mem_append_left _ (List.mem_of_getElem? (i := 155) rfl))))) rfl
theorem mlX3_90 : Cond.methodLink RX3 90 yX3_clamp ∈ zwd := zmem (List.mem_append_right _ (List.mem_append_right _ (List.mem_append_right _ (List.mem_append_left _ (List.mem_of_getElem? (i := 159) rfl))))) rfl
theorem mlX3_129 : Cond.methodLink RX3 129 yX3_split ∈ zwd := zmem (List.mem_append_right _ (List.mem_append_right _ (List.mem_append_right _ (List.mem_append_left _ (List.mem_of_getElem? (i := 162) rfl))))) rfl
theorem mlX3_132 : Cond.methodLink RX3 132 yX3_openStack ∈ zwd := zmem (List.mem_append_right _ (List.mem_append_right _ (List.mem_append_right _ (List.mem_append_left _ (List.mem_of_getElem? (i := 166) rfl))))) rfl
theorem mlX3_135 : Cond.methodLink RX3 135 yX3_closeStack ∈ zwd := zmem (List.mem_append_right _ (List.mem_append_right _ (List.mem_append_right _ (List.mem_append_left _ (List.mem_of_getElem? (i := 170) rfl))))) rfl
theorem mlX3_151 : Cond.methodLink RX3 151 yX3_isAtBreakpoint ∈ zwd := zmem (List.mem_append_right _ (List.mem_append_right _ (List.mem_append_right _ (List.mem_append_left _ (List.mem_of_getElem? (i := 174) rfl))))) rfl
theorem mlL_47 : Cond.methodLink RL 47 yX3_run ∈ zwd := zmem (List.mem_append_right _ (List.mem_append_right _ (List.mem_append_right _ (List.mem_append_left _ (List.mem_of_getElem? (i := 178) rfl))))) rfl
theorem mlL_51 : Cond.methodLink RL 51 yX3_setBreakpoint ∈ zwd := zmem (List.mem_append_right _ (List.mem_append_right _ (List.mem_append_right _ (List.mem_append_left _ (List.mem_of_getElem? (i := 182) rfl))))) rfl
theorem mlX3_158 : Cond.methodLink RX3 158 yX3_breakpoints ∈ zwd := zmem (List.mem_append_right _ (List.mem_append_right _ (List.mem_append_right _ (List.mem_append_left _ (List.mem_of_getElem? (i := 186) rfl))))) rfl
theorem mlL_59 : Cond.methodLink RL 59 yX3_ticksToHalt ∈ zwd := zmem (List.mem_append_right _ (List.mem_append_right _ (List.mem_append_right _ (List.mem_append_left _ (List.mem_of_getElem? (i := 190) rfl))))) rfl
theorem mlX3_167 : Cond.methodLink RX3 167 yX3_halts ∈ zwd := zmem (List.mem_append_right _ (List.mem_append_right _ (List.mem_append_right _ (List.mem_append_left _ (List.mem_of_getElem? (i := 194) rfl))))) rfl
theorem mlX3_161 : Cond.methodLink RX3 161 yX3_setAside ∈ zwd := zmem (List.mem_append_right _ (List.mem_append_right _ (List.mem_append_right _ (List.mem_append_left _ (List.mem_of_getElem? (i := 198) rfl))))) rfl
theorem mlX3_164 : Cond.methodLink RX3 164 yX3_takeBack ∈ zwd := zmem (List.mem_append_right _ (List.mem_append_right _ (List.mem_append_right _ (List.mem_append_left _ (List.mem_of_getElem? (i := 202) rfl))))) rfl
theorem mlL_63 : Cond.methodLink RL 63 yX3_cycleStart ∈ zwd := zmem (List.mem_append_right _ (List.mem_append_right _ (List.mem_append_right _ (List.mem_append_left _ (List.mem_of_getElem? (i := 206) rfl))))) rfl
theorem mlX3_179 : Cond.methodLink RX3 179 yX3_findCycle ∈ zwd := zmem (List.mem_append_right _ (List.mem_append_right _ (List.mem_append_right _ (List.mem_append_left _ (List.mem_of_getElem? (i := 210) rfl))))) rfl
theorem mlX3_176 : Cond.methodLink RX3 176 yX3_isSameAsFirst ∈ zwd := zmem (List.mem_append_right _ (List.mem_append_right _ (List.mem_append_right _ (List.mem_append_left _ (List.mem_of_getElem? (i := 214) rfl))))) rfl
theorem mlL_67 : Cond.methodLink RL 67 yX3_cycleLength ∈ zwd := zmem (List.mem_append_right _ (List.mem_append_right _ (List.mem_append_right _ (List.mem_append_left _ (List.mem_of_getElem? (i := 218) rfl))))) rfl
theorem mlL_72 : Cond.methodLink RL 72 yX3_cellAt ∈ zwd := zmem (List.mem_append_right _ (List.mem_append_right _ (List.mem_append_right _ (List.mem_append_left _ (List.mem_of_getElem? (i := 222) rfl))))) rfl
theorem mlL_76 : Cond.methodLink RL 76 yX3_changedCells ∈ zwd := zmem (List.mem_append_right _ (List.mem_append_right _ (List.mem_append_right _ (List.mem_append_left _ (List.mem_of_getElem? (i := 226) rfl))))) rfl
theorem mlL_80 : Cond.methodLink RL 80 yX3_pointerCount ∈ zwd := zmem (List.mem_append_right _ (List.mem_append_right _ (List.mem_append_right _ (List.mem_append_left _ (List.mem_of_getElem? (i := 230) rfl))))) rfl
theorem mlL_84 : Cond.methodLink RL 84 yX3_pointerAt ∈ zwd := zmem (List.mem_append_right _ (List.mem_append_right _ (List.mem_append_right _ (List.mem_append_left _ (List.mem_of_getElem? (i := 234) rfl))))) rfl
theorem mlX3_182 : Cond.methodLink RX3 182 yX3_isPointer ∈ zwd := zmem (List.mem_append_right _ (List.mem_append_right _ (List.mem_append_right _ (List.mem_append_left _ (List.mem_of_getElem? (i := 238) rfl))))) rfl
theorem mlL_88 : Cond.methodLink RL 88 yX3_position ∈ zwd := zmem (List.mem_append_right _ (List.mem_append_right _ (List.mem_append_right _ (List.mem_append_right _ (List.mem_of_getElem? (i := 2) rfl))))) rfl
theorem mlL_92 : Cond.methodLink RL 92 yX3_direction ∈ zwd := zmem (List.mem_append_right _ (List.mem_append_right _ (List.mem_append_right _ (List.mem_append_right _ (List.mem_of_getElem? (i := 6) rfl))))) rfl
theorem mlL_96 : Cond.methodLink RL 96 yX3_status ∈ zwd := zmem (List.mem_append_right _ (List.mem_append_right _ (List.mem_append_right _ (List.mem_append_right _ (List.mem_of_getElem? (i := 10) rfl))))) rfl
theorem mlL_100 : Cond.methodLink RL 100 yX3_sleep ∈ zwd := zmem (List.mem_append_right _ (List.mem_append_right _ (List.mem_append_right _ (List.mem_append_right _ (List.mem_of_getElem? (i := 14) rfl))))) rfl
theorem mlL_104 : Cond.methodLink RL 104 yX3_stackCount ∈ zwd := zmem (List.mem_append_right _ (List.mem_append_right _ (List.mem_append_right _ (List.mem_append_right _ (List.mem_of_getElem? (i := 18) rfl))))) rfl
theorem mlL_108 : Cond.methodLink RL 108 yX3_stackSize ∈ zwd := zmem (List.mem_append_right _ (List.mem_append_right _ (List.mem_append_right _ (List.mem_append_right _ (List.mem_of_getElem? (i := 22) rfl))))) rfl
theorem mlX3_186 : Cond.methodLink RX3 186 yX3_isStack ∈ zwd := zmem (List.mem_append_right _ (List.mem_append_right _ (List.mem_append_right _ (List.mem_append_right _ (List.mem_of_getElem? (i := 26) rfl))))) rfl
theorem mlL_112 : Cond.methodLink RL 112 yX3_valueAt ∈ zwd := zmem (List.mem_append_right _ (List.mem_append_right _ (List.mem_append_right _ (List.mem_append_right _ (List.mem_of_getElem? (i := 30) rfl))))) rfl
theorem mlL_116 : Cond.methodLink RL 116 yX3_inputSize ∈ zwd := zmem (List.mem_append_right _ (List.mem_append_right _ (List.mem_append_right _ (List.mem_append_right _ (List.mem_of_getElem? (i := 34) rfl))))) rfl
theorem mlL_120 : Cond.methodLink RL 120 yX3_outputSize ∈ zwd := zmem (List.mem_append_right _ (List.mem_append_right _ (List.mem_append_right _ (List.mem_append_right _ (List.mem_of_getElem? (i := 38) rfl))))) rfl
theorem mlL_124 : Cond.methodLink RL 124 yX3_outputAt ∈ zwd := zmem (List.mem_append_right _ (List.mem_append_right _ (List.mem_append_right _ (List.mem_append_right _ (List.mem_of_getElem? (i := 42) rfl))))) rfl
theorem mlL_128 : Cond.methodLink RL 128 yX3_outputTotal ∈ zwd := zmem (List.mem_append_right _ (List.mem_append_right _ (List.mem_append_right _ (List.mem_append_right _ (List.mem_of_getElem? (i := 46) rfl))))) rfl
theorem mlL_132 : Cond.methodLink RL 132 yX3_tickCount ∈ zwd := zmem (List.mem_append_right _ (List.mem_append_right _ (List.mem_append_right _ (List.mem_append_right _ (List.mem_of_getElem? (i := 50) rfl))))) rfl
theorem mlL_136 : Cond.methodLink RL 136 yX3_save ∈ zwd := zmem (List.mem_append_right _ (List.mem_append_right _ (List.mem_append_right _ (List.mem_append_right _ (List.mem_of_getElem? (i := 54) rfl))))) rfl
theorem mlL_140 : Cond.methodLink RL 140 yX3_restore ∈ zwd := zmem (List.mem_append_right _ (List.mem_append_right _ (List.mem_append_right _ (List.mem_append_right _ (List.mem_of_getElem? (i := 58) rfl))))) rfl
theorem mlL_144 : Cond.methodLink RL 144 yX3_undoDepth ∈ zwd := zmem (List.mem_append_right _ (List.mem_append_right _ (List.mem_append_right _ (List.mem_append_right _ (List.mem_of_getElem? (i := 62) rfl))))) rfl
theorem kn_object : Cond.instanceMethod objectInit ∈ zwd := zmem (List.mem_append_right _ (List.mem_append_left _ (List.mem_of_getElem? (i := 13) rfl))) rfl
theorem kt_arraycopy : Cond.static arraycopyName ∈ zwd := zmem (List.mem_append_right _ (List.mem_append_left _ (List.mem_of_getElem? (i := 173) rfl))) rfl
theorem kc_object : Cond.code objectInit ⟨#[0xb1]⟩ 1 none ∈ zwd := zmem (List.mem_append_right _ (List.mem_append_left _ (List.mem_of_getElem? (i := 14) rfl))) rfl
theorem kf0 : ∀ w ∈ u_ws RX0 TX0 9, w ∈ zwd := List.forall_mem_cons.mpr ⟨zmem (List.mem_append_right _ (List.mem_append_left _ (List.mem_of_getElem? (i := 45) rfl))) rfl, List.forall_mem_cons.mpr ⟨zmem (List.mem_append_right _ (List.mem_append_left _ (List.mem_of_getElem? (i := 47) rfl))) rfl, List.forall_mem_cons.mpr ⟨zmem (List.mem_append_right _ (List.mem_append_left _ (List.mem_of_getElem? (i := 49) rfl))) rfl, List.forall_mem_cons.mpr ⟨zmem (List.mem_append_right _ (List.mem_append_left _ (List.mem_of_getElem? (i := 51) rfl))) rfl, List.forall_mem_cons.mpr ⟨zmem (List.mem_append_right _ (List.mem_append_left _ (List.mem_of_getElem? (i := 53) rfl))) rfl, List.forall_mem_cons.mpr ⟨zmem (List.mem_append_right _ (List.mem_append_left _ (List.mem_of_getElem? (i := 55) rfl))) rfl, List.forall_mem_cons.mpr ⟨zmem (List.mem_append_right _ (List.mem_append_left _ (List.mem_of_getElem? (i := 57) rfl))) rfl, List.forall_mem_cons.mpr ⟨zmem (List.mem_append_right _ (List.mem_append_left _ (List.mem_of_getElem? (i := 59) rfl))) rfl, List.forall_mem_cons.mpr ⟨zmem (List.mem_append_right _ (List.mem_append_left _ (List.mem_of_getElem? (i := 61) rfl))) rfl, fun _ h => absurd h List.not_mem_nil⟩⟩⟩⟩⟩⟩⟩⟩⟩
theorem kf1 : ∀ w ∈ u_ws RX1 TX1 11, w ∈ zwd := List.forall_mem_cons.mpr ⟨zmem (List.mem_append_right _ (List.mem_append_left _ (List.mem_of_getElem? (i := 87) rfl))) rfl, List.forall_mem_cons.mpr ⟨zmem (List.mem_append_right _ (List.mem_append_left _ (List.mem_of_getElem? (i := 89) rfl))) rfl, List.forall_mem_cons.mpr ⟨zmem (List.mem_append_right _ (List.mem_append_left _ (List.mem_of_getElem? (i := 91) rfl))) rfl, List.forall_mem_cons.mpr ⟨zmem (List.mem_append_right _ (List.mem_append_left _ (List.mem_of_getElem? (i := 93) rfl))) rfl, List.forall_mem_cons.mpr ⟨zmem (List.mem_append_right _ (List.mem_append_left _ (List.mem_of_getElem? (i := 95) rfl))) rfl, List.forall_mem_cons.mpr ⟨zmem (List.mem_append_right _ (List.mem_append_left _ (List.mem_of_getElem? (i := 97) rfl))) rfl, List.forall_mem_cons.mpr ⟨zmem (List.mem_append_right _ (List.mem_append_left _ (List.mem_of_getElem? (i := 99) rfl))) rfl, List.forall_mem_cons.mpr ⟨zmem (List.mem_append_right _ (List.mem_append_left _ (List.mem_of_getElem? (i := 101) rfl))) rfl, List.forall_mem_cons.mpr ⟨zmem (List.mem_append_right _ (List.mem_append_left _ (List.mem_of_getElem? (i := 103) rfl))) rfl, List.forall_mem_cons.mpr ⟨zmem (List.mem_append_right _ (List.mem_append_left _ (List.mem_of_getElem? (i := 105) rfl))) rfl, List.forall_mem_cons.mpr ⟨zmem (List.mem_append_right _ (List.mem_append_left _ (List.mem_of_getElem? (i := 107) rfl))) rfl, fun _ h => absurd h List.not_mem_nil⟩⟩⟩⟩⟩⟩⟩⟩⟩⟩⟩
theorem kf2 : ∀ w ∈ u_ws RX2 TX2 11, w ∈ zwd := List.forall_mem_cons.mpr ⟨zmem (List.mem_append_right _ (List.mem_append_left _ (List.mem_of_getElem? (i := 122) rfl))) rfl, List.forall_mem_cons.mpr ⟨zmem (List.mem_append_right _ (List.mem_append_left _ (List.mem_of_getElem? (i := 124) rfl))) rfl, List.forall_mem_cons.mpr ⟨zmem (List.mem_append_right _ (List.mem_append_left _ (List.mem_of_getElem? (i := 126) rfl))) rfl, List.forall_mem_cons.mpr ⟨zmem (List.mem_append_right _ (List.mem_append_left _ (List.mem_of_getElem? (i := 128) rfl))) rfl, List.forall_mem_cons.mpr ⟨zmem (List.mem_append_right _ (List.mem_append_left _ (List.mem_of_getElem? (i := 130) rfl))) rfl, List.forall_mem_cons.mpr ⟨zmem (List.mem_append_right _ (List.mem_append_left _ (List.mem_of_getElem? (i := 132) rfl))) rfl, List.forall_mem_cons.mpr ⟨zmem (List.mem_append_right _ (List.mem_append_left _ (List.mem_of_getElem? (i := 134) rfl))) rfl, List.forall_mem_cons.mpr ⟨zmem (List.mem_append_right _ (List.mem_append_left _ (List.mem_of_getElem? (i := 136) rfl))) rfl, List.forall_mem_cons.mpr ⟨zmem (List.mem_append_right _ (List.mem_append_left _ (List.mem_of_getElem? (i := 138) rfl))) rfl, List.forall_mem_cons.mpr ⟨zmem (List.mem_append_right _ (List.mem_append_left _ (List.mem_of_getElem? (i := 140) rfl))) rfl, List.forall_mem_cons.mpr ⟨zmem (List.mem_append_right _ (List.mem_append_left _ (List.mem_of_getElem? (i := 142) rfl))) rfl, fun _ h => absurd h List.not_mem_nil⟩⟩⟩⟩⟩⟩⟩⟩⟩⟩⟩
theorem kf3 : ∀ w ∈ u_ws RX3 TX3 14, w ∈ zwd := List.forall_mem_cons.mpr ⟨zmem (List.mem_append_right _ (List.mem_append_right _ (List.mem_append_left _ (List.mem_of_getElem? (i := 235) rfl)))) rfl, List.forall_mem_cons.mpr ⟨zmem (List.mem_append_right _ (List.mem_append_right _ (List.mem_append_left _ (List.mem_of_getElem? (i := 237) rfl)))) rfl, List.forall_mem_cons.mpr ⟨zmem (List.mem_append_right _ (List.mem_append_right _ (List.mem_append_left _ (List.mem_of_getElem? (i := 239) rfl)))) rfl, List.forall_mem_cons.mpr ⟨zmem (List.mem_append_right _ (List.mem_append_right _ (List.mem_append_right _ (List.mem_append_left _ (List.mem_of_getElem? (i := 1) rfl))))) rfl, List.forall_mem_cons.mpr ⟨zmem (List.mem_append_right _ (List.mem_append_right _ (List.mem_append_right _ (List.mem_append_left _ (List.mem_of_getElem? (i := 3) rfl))))) rfl, List.forall_mem_cons.mpr ⟨zmem (List.mem_append_right _ (List.mem_append_right _ (List.mem_append_right _ (List.mem_append_left _ (List.mem_of_getElem? (i := 5) rfl))))) rfl, List.forall_mem_cons.mpr ⟨zmem (List.mem_append_right _ (List.mem_append_right _ (List.mem_append_right _ (List.mem_append_left _ (List.mem_of_getElem? (i := 7) rfl))))) rfl, List.forall_mem_cons.mpr ⟨zmem (List.mem_append_right _ (List.mem_append_right _ (List.mem_append_right _ (List.mem_append_left _ (List.mem_of_getElem? (i := 9) rfl))))) rfl, List.forall_mem_cons.mpr ⟨zmem (List.mem_append_right _ (List.mem_append_right _ (List.mem_append_right _ (List.mem_append_left _ (List.mem_of_getElem? (i := 11) rfl))))) rfl, List.forall_mem_cons.mpr ⟨zmem (List.mem_append_right _ (List.mem_append_right _ (List.mem_append_right _ (List.mem_append_left _ (List.mem_of_getElem? (i := 13) rfl))))) rfl, List.forall_mem_cons.mpr ⟨zmem (List.mem_append_right _ (List.mem_append_right _ (List.mem_append_right _ (List.mem_append_left _ (List.mem_of_getElem? (i := 15) rfl))))) rfl, List.forall_mem_cons.mpr ⟨zmem (List.mem_append_right _ (List.mem_append_right _ (List.mem_append_right _ (List.mem_append_left _ (List.mem_of_getElem? (i := 17) rfl))))) rfl, List.forall_mem_cons.mpr ⟨zmem (List.mem_append_right _ (List.mem_append_right _ (List.mem_append_right _ (List.mem_append_left _ (List.mem_of_getElem? (i := 19) rfl))))) rfl, List.forall_mem_cons.mpr ⟨zmem (List.mem_append_right _ (List.mem_append_right _ (List.mem_append_right _ (List.mem_append_left _ (List.mem_of_getElem? (i := 21) rfl))))) rfl, fun _ h => absurd h List.not_mem_nil⟩⟩⟩⟩⟩⟩⟩⟩⟩⟩⟩⟩⟩⟩
end
section
/-! THE MACHINE OVER INT ROWS: a state is a shape S (how many places, the kind of each, the references) and the ints mu; places are numbers -/
abbrev zV : Type := Int32 ⊕ Nat
abbrev zS : Type := Nat × (Nat → Nat × Nat) × (Nat → Nat → Nat)
abbrev zU : Type := Nat → Nat → Int32
abbrev zC : Type := ClassId × ClassId × ClassId × ClassId
def zr (ad : Nat → Nat) (v : zV) : Value := match v with
  | .inl x => .int x
  | .inr 0 => .null
  | .inr (q + 1) => .ref (ad q)
def zo (ad : Nat → Nat) (r : Nat) : Option Nat := match r with
  | 0 => none
  | q + 1 => some (ad q)
theorem zo_rf (ad : Nat → Nat) (r : Nat) : va_rf (zo ad r) = zr ad (.inr r) := by cases r <;> rfl
theorem zr_cat (ad : Nat → Nat) (v : zV) : (zr ad v).category = 1 := by
  rcases v with x | r
  · rfl
  · cases r <;> rfl
theorem zr_sum (ad : Nat → Nat) (st : List zV) : ((st.map (zr ad)).map fun v => v.category).sum = st.length := by
  induction st with
  | nil => rfl
  | cons a t ih =>
    rw [List.map_cons, List.map_cons, List.sum_cons, ih, zr_cat, List.length_cons]
    omega
def zrefs (ci : Nat) : List Nat := match ci with
  | 0 => [5, 7]
  | 1 => [0, 1, 2, 3, 5, 7]
  | 2 => [0, 2, 4, 5, 7, 8, 9, 10]
  | _ => [0, 1, 2, 3, 4, 6, 7, 8, 9, 11]
def znf (ci : Nat) : Nat := match ci with
  | 0 => 9
  | 1 => 11
  | 2 => 11
  | _ => 14
def zfv (ad : Nat → Nat) (rho : Nat → Nat) (mu : Nat → Int32) (ci j : Nat) : Value := if j ∈ zrefs ci then zr ad (.inr (rho j)) else .int (mu j)
def zfs (ad : Nat → Nat) (rho : Nat → Nat) (mu : Nat → Int32) (ci : Nat) : List Value := (List.range (znf ci)).map (zfv ad rho mu ci)
def zent (cs : zC) (ad : Nat → Nat) (S : zS) (mu : zU) (k : Nat) : va_E := match S.2.1 k with
  | (0, ci) => .inr (ci, zfs ad (S.2.2 k) (mu k) ci)
  | (1, n) => .inl (cs.1, n, .inl (mu k))
  | (2, n) => .inl (cs.2.1, n, .inl (mu k))
  | (3, n) => .inl (cs.2.2.1, n, .inr (.inr (.inr (.inr (fun j => zo ad (S.2.2 k j))))))
  | (_, n) => .inl (cs.2.2.2, n, .inr (.inr (.inr (.inr (fun j => zo ad (S.2.2 k j))))))
def zws (cs : zC) (ad : Nat → Nat) (S : zS) (mu : zU) : va_W := (List.range S.1).map (fun k => (ad k, zent cs ad S mu k))
theorem zws_get (cs : zC) (ad : Nat → Nat) (S : zS) (mu : zU) {k : Nat} (h : k < S.1) : (zws cs ad S mu)[k]? = some (ad k, zent cs ad S mu k) := by
  simp [zws, h]
theorem zws_set {cs : zC} {ad : Nat → Nat} {S S' : zS} {mu mu' : zU} {k : Nat} {e : va_E} (h1 : S'.1 = S.1) (hk : zent cs ad S' mu' k = e) (ho : ∀ q, q ≠ k → zent cs ad S' mu' q = zent cs ad S mu q) : (zws cs ad S mu).set k (ad k, e) = zws cs ad S' mu' := by
  apply List.ext_getElem?
  intro i
  rw [List.getElem?_set]
  by_cases hi : i < S.1
  · by_cases hik : k = i
    · subst hik
      simp [zws, hi, h1, hk]
    · simp [zws, hi, h1, hik, ho i (Ne.symm hik)]
  · by_cases hik : k = i
    · subst hik
      simp [zws, hi, h1]
    · simp [zws, hi, h1, hik]
def zup (mu : zU) (k j : Nat) (x : Int32) : zU := fun q => if q = k then upd (mu q) j x else mu q
def zur (rho : Nat → Nat → Nat) (k j r : Nat) : Nat → Nat → Nat := fun q => if q = k then (fun i => if i = j then r else rho q i) else rho q
theorem zup_s (mu : zU) (k j : Nat) (x : Int32) : zup mu k j x k = upd (mu k) j x := by simp [zup]
theorem zup_n {mu : zU} {k j q : Nat} {x : Int32} (h : q ≠ k) : zup mu k j x q = mu q := by simp [zup, h]
theorem zent_o {cs : zC} {ad : Nat → Nat} {S : zS} {mu : zU} {k ci : Nat} (h : S.2.1 k = (0, ci)) : zent cs ad S mu k = .inr (ci, zfs ad (S.2.2 k) (mu k) ci) := by simp [zent, h]
theorem zent_i {cs : zC} {ad : Nat → Nat} {S : zS} {mu : zU} {k n : Nat} (h : S.2.1 k = (1, n)) : zent cs ad S mu k = .inl (cs.1, n, .inl (mu k)) := by simp [zent, h]
theorem zent_z {cs : zC} {ad : Nat → Nat} {S : zS} {mu : zU} {k n : Nat} (h : S.2.1 k = (2, n)) : zent cs ad S mu k = .inl (cs.2.1, n, .inl (mu k)) := by simp [zent, h]
theorem zent_p {cs : zC} {ad : Nat → Nat} {S : zS} {mu : zU} {k n : Nat} (h : S.2.1 k = (3, n)) : zent cs ad S mu k = .inl (cs.2.2.1, n, .inr (.inr (.inr (.inr (fun j => zo ad (S.2.2 k j)))))) := by simp [zent, h]
theorem zent_t {cs : zC} {ad : Nat → Nat} {S : zS} {mu : zU} {k n : Nat} (h : S.2.1 k = (4, n)) : zent cs ad S mu k = .inl (cs.2.2.2, n, .inr (.inr (.inr (.inr (fun j => zo ad (S.2.2 k j)))))) := by simp [zent, h]
theorem zent_q {cs : zC} {ad : Nat → Nat} {S : zS} {mu mu' : zU} {q : Nat} (h : mu' q = mu q) : zent cs ad S mu' q = zent cs ad S mu q := by simp only [zent, h]
def ztys (cs : zC) : List (ClassId × FieldType) := [(cs.1, .int), (cs.2.1, .boolean), (cs.2.2.1, .object RX0), (cs.2.2.2, .object RX1)]
def zX (s : State) : Prop := va_AO RX0 s ∧ va_AO RX1 s ∧ va_Nw (.methodLinkNest RX1 33 yX0_init RX2) s ∧ va_Nw (.methodLinkNest RX1 117 yX2_isCode RX2) s
/-- what stays fixed in a method's body -/
def zH (own nm : String) (cc : ByteArray) (nL : Nat) (ret : Option FieldType) (p : Program) (s : State) (m : MethodId) (args : Array Value) (meth : Method) (c : Code) (D : va_G) (cs : zC) (A : Nat → Prop) : Prop :=
  p.tables.exec = Jvm.exec ∧ c.code = cc ∧ meth.sig.returnType = ret ∧ c.maxLocals = nL ∧ s.vm.findClass own = some m.cls ∧ (∀ w ∈ zwd, w.before args s = true) ∧ meth.locks = false ∧ meth.name = nm ∧ (∀ q, s.heap.size ≤ q → A q) ∧ va_K D vwCl (ztys cs) s ∧ zX s
def zWd (cs : zC) (ad : Nat → Nat) (S : zS) (mu : zU) (A : Nat → Prop) (D : va_G) (H0 H : Heap) (locs : List Loc) : Prop := va_P D vwCl (zws cs ad S mu) H ∧ va_D A (zws cs ad S mu) ∧ va_S A H0 H locs
def zAg (ad0 ad : Nat → Nat) (N0 : Nat) (S : zS) : Prop := (∀ k, k < N0 → ad k = ad0 k) ∧ N0 ≤ S.1 ∧ (S.1 = N0 → ad = ad0)
def zLs (ad : Nat → Nat) (ls : Array Slot) (nL : Nat) (L : List (Option zV)) : Prop := L.length = nL ∧ ls.size = nL ∧ lv_wf ls ∧ ∀ (i : Nat) (v : zV), L[i]? = some (some v) → ls[i]? = some (.val (zr ad v))
def zQ (D : va_G) (cs : zC) (ad0 : Nat → Nat) (N0 : Nat) (A : Nat → Prop) (Ph : Option zV → zS → zU → Prop) : Array Value → State → Outcome → State → Prop := fun _ st oc t =>
  ∃ (v : Option zV) (S' : zS) (mu' : zU) (ad' : Nat → Nat), oc = .returned (v.map (zr ad')) ∧ Ph v S' mu' ∧ zAg ad0 ad' N0 S' ∧ va_P D vwCl (zws cs ad' S' mu') t.heap ∧ va_D A (zws cs ad' S' mu') ∧ va_F A st t
/-- from this point of the body the method comes to an end with Ph -/
def zG (own nm : String) (cc : ByteArray) (nL : Nat) (ret : Option FieldType) (R : Room) (mc ms : Nat) (Ph : Option zV → zS → zU → Prop) (pc : Nat) (L : List (Option zV)) (st : List zV) (S : zS) (mu : zU) (cells slots : Nat) : Prop :=
  ∀ (l : Launch) (p : Program) (e : Env) (s : State) (m : MethodId) (args : Array Value) (below : List Frame) (meth : Method) (c : Code) (D : va_G) (cs : zC) (ad0 : Nat → Nat) (N0 : Nat) (A : Nat → Prop), zH own nm cc nL ret p s m args meth c D cs A →
    ∀ (ad : Nat → Nat) (H : Heap) (locs : List Loc) (ls : Array Slot), zAg ad0 ad N0 S → zWd cs ad S mu A D s.heap H locs → zLs ad ls nL L →
      W p l e R s m args below meth c H locs cells slots (MQ below (zQ D cs ad0 N0 A Ph) args s mc ms A) (F0 m pc ls (st.map (zr ad)))
def zroom (d mc ms : Nat) : Room := { frames := d, cells := mc, slots := ms, locals := 38 * d }
def zPc (D : va_G) (cs : zC) (ad : Nat → Nat) (S : zS) (mu : zU) (sz : Nat) (U : State) : Prop := U.heap.size = sz ∧ va_P D vwCl (zws cs ad S mu) U.heap ∧ va_D (fun _ => True) (zws cs ad S mu) ∧ va_K D vwCl (ztys cs) U ∧ zX U
/-- a method's contract: called with as at the state (S, mu), it comes back with Ph -/
def zM (y : MethodName) (cc : ByteArray) (nL : Nat) (ret : Option FieldType) (d mc ms : Nat) (as : List zV) (S : zS) (mu : zU) (Ph : Option zV → zS → zU → Prop) : Prop :=
  ∀ (l : Launch) (D : va_G) (cs : zC) (ad : Nat → Nat) (sz : Nat), Met l y (Cond.code y cc nL ret :: zwd) (zroom d mc ms) (va_Pc (as.map (zr ad)) (zPc D cs ad S mu sz)) (zQ D cs ad S.1 (va_A (zws cs ad S mu) sz) Ph) mc ms (va_A (zws cs ad S mu) sz)
def zlv (ad : Nat → Nat) (L : List (Option zV)) : List (Nat × Value) := (List.range L.length).filterMap (fun i => match L[i]? with
  | some (some v) => some (i, zr ad v)
  | _ => none)
theorem zlv_mem {ad : Nat → Nat} {L : List (Option zV)} {q : Nat × Value} : q ∈ zlv ad L ↔ ∃ v : zV, L[q.1]? = some (some v) ∧ q.2 = zr ad v := by
  unfold zlv
  rw [List.mem_filterMap]
  constructor
  · rintro ⟨i, hi, h⟩
    rcases hL : L[i]? with _ | (_ | v)
    · rw [hL] at h; cases h
    · rw [hL] at h; cases h
    · rw [hL] at h
      cases h
      exact ⟨v, hL, rfl⟩
  · rintro ⟨v, h1, h2⟩
    have hlt : q.1 < L.length := (List.getElem?_eq_some_iff.mp h1).1
    refine ⟨q.1, List.mem_range.mpr hlt, ?_⟩
    rw [h1]
    show some (q.1, zr ad v) = some q
    rw [← h2]
theorem zLs_has {ad : Nat → Nat} {ls : Array Slot} {nL : Nat} {L : List (Option zV)} (h : zLs ad ls nL L) : lv_has ls nL (zlv ad L) := by
  refine ⟨h.2.1, h.2.2.1, fun q hq => ?_⟩
  obtain ⟨v, h1, h2⟩ := zlv_mem.mp hq
  rw [h.2.2.2 q.1 v h1, h2]
theorem zLs_of {ad : Nat → Nat} {ls ls' : Array Slot} {nL : Nat} {L : List (Option zV)} {i : Nat} {x : zV} {w : Value} (h : zLs ad ls nL L) (hi : i < nL) (hw : w = zr ad x) (h' : lv_has ls' nL ((i, w) :: (zlv ad L).filter (fun q => !(q.1 == i) && !(q.1 + 1 == i && q.2.category == 2)))) : zLs ad ls' nL (L.set i (some x)) := by
  refine ⟨by rw [List.length_set]; exact h.1, h'.1, h'.2.1, fun j v hj => ?_⟩
  by_cases hij : i = j
  · subst hij
    rw [List.getElem?_set_self (by rw [h.1]; exact hi)] at hj
    cases hj
    have := h'.2.2 (i, w) List.mem_cons_self
    rw [← hw]; exact this
  · rw [List.getElem?_set_ne hij] at hj
    refine h'.2.2 (j, zr ad v) (List.mem_cons_of_mem _ (List.mem_filter.mpr ⟨zlv_mem.mpr ⟨v, hj, rfl⟩, ?_⟩))
    have hne : (j == i) = false := by simpa using fun z => hij z.symm
    simp [hne, zr_cat]
theorem zA_sub {cs : zC} {ad : Nat → Nat} {S : zS} {mu : zU} {A : Nat → Prop} {D : va_G} {H0 H : Heap} {locs : List Loc} (hw : zWd cs ad S mu A D H0 H locs) (hA : ∀ q, H0.size ≤ q → A q) : ∀ q, va_A (zws cs ad S mu) H.size q → A q := by
  intro q h
  rcases h with ⟨k, e, h⟩ | h
  · exact hw.2.1.2 k (q, e) h
  · exact hA q (Nat.le_trans hw.2.2.1 h)
theorem zX_warm {s U : State} (hW : s.WarmedH U.vm) (h : zX s) : zX U := ⟨h.1.moved hW.alike, h.2.1.moved hW.alike, va_Nw.warmM hW h.2.2.1, va_Nw.warmM hW h.2.2.2⟩
theorem zX_same {s U : State} (hW : s.vm = U.vm) (h : zX s) : zX U := ⟨h.1.moved (by rw [hW]; exact Vm.Alike.refl _), h.2.1.moved (by rw [hW]; exact Vm.Alike.refl _), va_Nw.same rfl hW h.2.2.1, va_Nw.same rfl hW h.2.2.2⟩
theorem zlg (ad : Nat → Nat) (as : List zV) : lg_sl (as.map (zr ad)) = as.map (fun v => Slot.val (zr ad v)) := by
  induction as with
  | nil => rfl
  | cons a t ih =>
    have : lg_sl ((a :: t).map (zr ad)) = (if (zr ad a).category = 2 then [Slot.val (zr ad a), .second] else [.val (zr ad a)]) ++ lg_sl (t.map (zr ad)) := rfl
    rw [this, ih, zr_cat]
    rfl
theorem zM.ofG {y : MethodName} {cc : ByteArray} {nL : Nat} {ret : Option FieldType} {d mc ms : Nat} {as : List zV} {S : zS} {mu : zU} {Ph : Option zV → zS → zU → Prop} (hy : plainName y.cls = true) (hn : as.length ≤ nL)
    (g : zG y.cls y.name cc nL ret (zroom d mc ms) mc ms Ph 0 (as.map some ++ List.replicate (nL - as.length) none) [] S mu 0 0) : zM y cc nL ret d mc ms as S mu Ph := by
  intro l D cs ad sz
  refine Met.ofW (cc := cc) (maxL := nL) (ret := ret) hy rfl ?_
  intro p e s m args below meth c s₁ B hml hv
  obtain ⟨rfl, hsz, hP, hD0, hK, hX⟩ := hv
  subst hsz
  have hts := atoms_spec (ws := Cond.code y cc nL ret :: zwd) B.pre
  have hl := lv_entry (as.map (zr ad)) (n := nL) (by rw [zlg]; simpa using hn)
  rw [lg_entry_eq]
  refine g l p e s m _ below meth c D cs ad S.1 _ ⟨B.exec, B.bytes, B.returns, hml, findClass_of_methodNamed B.named, fun w h => hts w (List.mem_cons_of_mem _ h), B.notSynchronized, (name_of_methodNamed B.named B.method).1, fun q h => Or.inr h, hK, hX⟩ ad s.heap [] _ ⟨fun _ _ => rfl, Nat.le_refl _, fun _ => rfl⟩ ⟨hP, hD0.self, va_S.rf⟩ ⟨by simp; omega, hl.1, hl.2.1, fun i v hi => ?_⟩
  rw [zlg]
  have hi' : i < as.length := by
    rcases Nat.lt_or_ge i as.length with q | q
    · exact q
    · rw [List.getElem?_append_right (by simpa using q), List.getElem?_replicate] at hi
      split at hi <;> simp at hi
  rw [List.getElem?_append_left (by simpa using hi')] at hi
  simp only [List.getElem?_map, Option.map_eq_some_iff] at hi
  obtain ⟨a, h1, h2⟩ := hi
  cases h2
  simp only [List.getElem?_toArray]
  rw [List.getElem?_append_left (by simpa using hi')]
  simp [h1]
end
section
section ZG
variable {own nm : String} {cc : ByteArray} {nL : Nat} {ret : Option FieldType} {R : Room} {mc ms : Nat} {Ph : Option zV → zS → zU → Prop} {pc : Nat} {L : List (Option zV)} {st : List zV} {S : zS} {mu : zU} {cells slots : Nat}
theorem zg_iconst {n : Int} {v : Int32} (hd : decode cc pc = .ok (.iconst n, 1)) (hv : Int32.ofInt n = v) (k : zG own nm cc nL ret R mc ms Ph (pc + 1) L (.inl v :: st) S mu cells slots) : zG own nm cc nL ret R mc ms Ph pc L st S mu cells slots := by
  intro l p e s m args below meth c D cs ad0 N0 A h ad H locs ls ho hw hl
  exact lv_iconst h.1 h.2.1 hd hv (k l p e s m args below meth c D cs ad0 N0 A h ad H locs ls ho hw hl)
theorem zg_bipush {n : Int} {v : Int32} (hd : decode cc pc = .ok (.bipush n, 2)) (hv : (Int8.ofInt n).toInt32 = v) (k : zG own nm cc nL ret R mc ms Ph (pc + 2) L (.inl v :: st) S mu cells slots) : zG own nm cc nL ret R mc ms Ph pc L st S mu cells slots := by
  intro l p e s m args below meth c D cs ad0 N0 A h ad H locs ls ho hw hl
  exact lv_bipush h.1 h.2.1 hd hv (k l p e s m args below meth c D cs ad0 N0 A h ad H locs ls ho hw hl)
theorem zg_sipush {n : Int} {v : Int32} (hd : decode cc pc = .ok (.sipush n, 3)) (hv : (Int16.ofInt n).toInt32 = v) (k : zG own nm cc nL ret R mc ms Ph (pc + 3) L (.inl v :: st) S mu cells slots) : zG own nm cc nL ret R mc ms Ph pc L st S mu cells slots := by
  intro l p e s m args below meth c D cs ad0 N0 A h ad H locs ls ho hw hl
  exact lv_sipush h.1 h.2.1 hd hv (k l p e s m args below meth c D cs ad0 N0 A h ad H locs ls ho hw hl)
theorem zg_iload_n {q : Fin 4} {i : Nat} {x : Int32} (hd : decode cc pc = .ok (.iload_n q, 1)) (hi : (q : Nat) = i) (hL : L[i]? = some (some (.inl x))) (k : zG own nm cc nL ret R mc ms Ph (pc + 1) L (.inl x :: st) S mu cells slots) : zG own nm cc nL ret R mc ms Ph pc L st S mu cells slots := by
  intro l p e s m args below meth c D cs ad0 N0 A h ad H locs ls ho hw hl
  exact lv_iload_n h.1 h.2.1 hd hi (hl.2.2.2 i (.inl x) hL) (k l p e s m args below meth c D cs ad0 N0 A h ad H locs ls ho hw hl)
theorem zg_iload {i : Nat} {x : Int32} (hd : decode cc pc = .ok (.iload i, 2)) (hL : L[i]? = some (some (.inl x))) (k : zG own nm cc nL ret R mc ms Ph (pc + 2) L (.inl x :: st) S mu cells slots) : zG own nm cc nL ret R mc ms Ph pc L st S mu cells slots := by
  intro l p e s m args below meth c D cs ad0 N0 A h ad H locs ls ho hw hl
  exact lv_iload h.1 h.2.1 hd (hl.2.2.2 i (.inl x) hL) (k l p e s m args below meth c D cs ad0 N0 A h ad H locs ls ho hw hl)
theorem zg_aload_n {q : Fin 4} {i x : Nat} (hd : decode cc pc = .ok (.aload_n q, 1)) (hi : (q : Nat) = i) (hL : L[i]? = some (some (.inr (x + 1)))) (k : zG own nm cc nL ret R mc ms Ph (pc + 1) L (.inr (x + 1) :: st) S mu cells slots) : zG own nm cc nL ret R mc ms Ph pc L st S mu cells slots := by
  intro l p e s m args below meth c D cs ad0 N0 A h ad H locs ls ho hw hl
  exact lv_aload_n h.1 h.2.1 hd hi (hl.2.2.2 i (.inr (x + 1)) hL) (k l p e s m args below meth c D cs ad0 N0 A h ad H locs ls ho hw hl)
theorem zg_aload {i x : Nat} (hd : decode cc pc = .ok (.aload i, 2)) (hL : L[i]? = some (some (.inr (x + 1)))) (k : zG own nm cc nL ret R mc ms Ph (pc + 2) L (.inr (x + 1) :: st) S mu cells slots) : zG own nm cc nL ret R mc ms Ph pc L st S mu cells slots := by
  intro l p e s m args below meth c D cs ad0 N0 A h ad H locs ls ho hw hl
  exact lv_aload h.1 h.2.1 hd (hl.2.2.2 i (.inr (x + 1)) hL) (k l p e s m args below meth c D cs ad0 N0 A h ad H locs ls ho hw hl)
theorem zg_istore_n {q : Fin 4} {i : Nat} {x : Int32} {L2 : List (Option zV)} (hd : decode cc pc = .ok (.istore_n q, 1)) (hi : (q : Nat) = i) (hn : i < nL) (hL : L.set i (some (.inl x)) = L2) (k : zG own nm cc nL ret R mc ms Ph (pc + 1) L2 st S mu cells slots) : zG own nm cc nL ret R mc ms Ph pc L (.inl x :: st) S mu cells slots := by
  intro l p e s m args below meth c D cs ad0 N0 A h ad H locs ls ho hw hl
  subst hL
  exact lv_istore_n h.1 h.2.1 hd hi (zLs_has hl) hn rfl (fun ls2 h2 => (k l p e s m args below meth c D cs ad0 N0 A h ad H locs ls2 ho hw (zLs_of (x := .inl x) hl hn rfl h2)))
theorem zg_istore {i : Nat} {x : Int32} {L2 : List (Option zV)} (hd : decode cc pc = .ok (.istore i, 2)) (hn : i < nL) (hL : L.set i (some (.inl x)) = L2) (k : zG own nm cc nL ret R mc ms Ph (pc + 2) L2 st S mu cells slots) : zG own nm cc nL ret R mc ms Ph pc L (.inl x :: st) S mu cells slots := by
  intro l p e s m args below meth c D cs ad0 N0 A h ad H locs ls ho hw hl
  subst hL
  exact lv_istore h.1 h.2.1 hd (zLs_has hl) hn rfl (fun ls2 h2 => (k l p e s m args below meth c D cs ad0 N0 A h ad H locs ls2 ho hw (zLs_of (x := .inl x) hl hn rfl h2)))
theorem zg_astore_n {q : Fin 4} {i : Nat} {x : Nat} {L2 : List (Option zV)} (hd : decode cc pc = .ok (.astore_n q, 1)) (hi : (q : Nat) = i) (hn : i < nL) (hL : L.set i (some (.inr (x + 1))) = L2) (k : zG own nm cc nL ret R mc ms Ph (pc + 1) L2 st S mu cells slots) : zG own nm cc nL ret R mc ms Ph pc L (.inr (x + 1) :: st) S mu cells slots := by
  intro l p e s m args below meth c D cs ad0 N0 A h ad H locs ls ho hw hl
  subst hL
  exact lv_astore_n h.1 h.2.1 hd hi (zLs_has hl) hn rfl (fun ls2 h2 => (k l p e s m args below meth c D cs ad0 N0 A h ad H locs ls2 ho hw (zLs_of (x := .inr (x + 1)) hl hn rfl h2)))
theorem zg_astore {i : Nat} {x : Nat} {L2 : List (Option zV)} (hd : decode cc pc = .ok (.astore i, 2)) (hn : i < nL) (hL : L.set i (some (.inr (x + 1))) = L2) (k : zG own nm cc nL ret R mc ms Ph (pc + 2) L2 st S mu cells slots) : zG own nm cc nL ret R mc ms Ph pc L (.inr (x + 1) :: st) S mu cells slots := by
  intro l p e s m args below meth c D cs ad0 N0 A h ad H locs ls ho hw hl
  subst hL
  exact lv_astore h.1 h.2.1 hd (zLs_has hl) hn rfl (fun ls2 h2 => (k l p e s m args below meth c D cs ad0 N0 A h ad H locs ls2 ho hw (zLs_of (x := .inr (x + 1)) hl hn rfl h2)))
theorem zg_iinc {i : Nat} {n : Int} {x v : Int32} {L2 : List (Option zV)} (hd : decode cc pc = .ok (.iinc i n, 3)) (hn : i < nL) (hx : L[i]? = some (some (.inl x))) (hv : x + Int32.ofInt n = v) (hL : L.set i (some (.inl v)) = L2) (k : zG own nm cc nL ret R mc ms Ph (pc + 3) L2 st S mu cells slots) : zG own nm cc nL ret R mc ms Ph pc L st S mu cells slots := by
  intro l p e s m args below meth c D cs ad0 N0 A h ad H locs ls ho hw hl
  subst hL
  obtain ⟨kx, hkx⟩ := List.getElem?_of_mem (zlv_mem (ad := ad) (L := L) (q := (i, .int x)).mpr ⟨.inl x, hx, rfl⟩)
  exact lv_iinc h.1 h.2.1 hd (zLs_has hl) hkx hv hn rfl (fun ls2 h2 => (k l p e s m args below meth c D cs ad0 N0 A h ad H locs ls2 ho hw (zLs_of (x := .inl v) hl hn rfl h2)))
theorem zg_iadd {x y : Int32} (hd : decode cc pc = .ok (.iadd, 1)) (k : zG own nm cc nL ret R mc ms Ph (pc + 1) L (.inl (x + y) :: st) S mu cells slots) : zG own nm cc nL ret R mc ms Ph pc L (.inl y :: .inl x :: st) S mu cells slots := by
  intro l p e s m args below meth c D cs ad0 N0 A h ad H locs ls ho hw hl
  exact lv_iadd h.1 h.2.1 hd (k l p e s m args below meth c D cs ad0 N0 A h ad H locs ls ho hw hl)
theorem zg_isub {x y : Int32} (hd : decode cc pc = .ok (.isub, 1)) (k : zG own nm cc nL ret R mc ms Ph (pc + 1) L (.inl (x - y) :: st) S mu cells slots) : zG own nm cc nL ret R mc ms Ph pc L (.inl y :: .inl x :: st) S mu cells slots := by
  intro l p e s m args below meth c D cs ad0 N0 A h ad H locs ls ho hw hl
  exact lv_isub h.1 h.2.1 hd (k l p e s m args below meth c D cs ad0 N0 A h ad H locs ls ho hw hl)
theorem zg_imul {x y : Int32} (hd : decode cc pc = .ok (.imul, 1)) (k : zG own nm cc nL ret R mc ms Ph (pc + 1) L (.inl (x * y) :: st) S mu cells slots) : zG own nm cc nL ret R mc ms Ph pc L (.inl y :: .inl x :: st) S mu cells slots := by
  intro l p e s m args below meth c D cs ad0 N0 A h ad H locs ls ho hw hl
  exact lv_imul h.1 h.2.1 hd (k l p e s m args below meth c D cs ad0 N0 A h ad H locs ls ho hw hl)
theorem zg_iand {x y : Int32} (hd : decode cc pc = .ok (.iand, 1)) (k : zG own nm cc nL ret R mc ms Ph (pc + 1) L (.inl (x &&& y) :: st) S mu cells slots) : zG own nm cc nL ret R mc ms Ph pc L (.inl y :: .inl x :: st) S mu cells slots := by
  intro l p e s m args below meth c D cs ad0 N0 A h ad H locs ls ho hw hl
  exact lv_iand h.1 h.2.1 hd (k l p e s m args below meth c D cs ad0 N0 A h ad H locs ls ho hw hl)
theorem zg_ixor {x y : Int32} (hd : decode cc pc = .ok (.ixor, 1)) (k : zG own nm cc nL ret R mc ms Ph (pc + 1) L (.inl (x ^^^ y) :: st) S mu cells slots) : zG own nm cc nL ret R mc ms Ph pc L (.inl y :: .inl x :: st) S mu cells slots := by
  intro l p e s m args below meth c D cs ad0 N0 A h ad H locs ls ho hw hl
  exact lv_ixor h.1 h.2.1 hd (k l p e s m args below meth c D cs ad0 N0 A h ad H locs ls ho hw hl)
theorem zg_idiv {x y : Int32} (hd : decode cc pc = .ok (.idiv, 1)) (hne : ¬ y = 0) (k : zG own nm cc nL ret R mc ms Ph (pc + 1) L (.inl (x / y) :: st) S mu cells slots) : zG own nm cc nL ret R mc ms Ph pc L (.inl y :: .inl x :: st) S mu cells slots := by
  intro l p e s m args below meth c D cs ad0 N0 A h ad H locs ls ho hw hl
  exact lv_idiv h.1 h.2.1 hd hne (k l p e s m args below meth c D cs ad0 N0 A h ad H locs ls ho hw hl)
theorem zg_irem {x y : Int32} (hd : decode cc pc = .ok (.irem, 1)) (hne : ¬ y = 0) (k : zG own nm cc nL ret R mc ms Ph (pc + 1) L (.inl (x - x / y * y) :: st) S mu cells slots) : zG own nm cc nL ret R mc ms Ph pc L (.inl y :: .inl x :: st) S mu cells slots := by
  intro l p e s m args below meth c D cs ad0 N0 A h ad H locs ls ho hw hl
  exact lv_irem h.1 h.2.1 hd hne (k l p e s m args below meth c D cs ad0 N0 A h ad H locs ls ho hw hl)
theorem zg_dup {x : zV} (hd : decode cc pc = .ok (.dup, 1)) (k : zG own nm cc nL ret R mc ms Ph (pc + 1) L (x :: x :: st) S mu cells slots) : zG own nm cc nL ret R mc ms Ph pc L (x :: st) S mu cells slots := by
  intro l p e s m args below meth c D cs ad0 N0 A h ad H locs ls ho hw hl
  exact lv_dup h.1 h.2.1 hd (zr_cat ad x) (k l p e s m args below meth c D cs ad0 N0 A h ad H locs ls ho hw hl)
theorem zg_pop {x : zV} (hd : decode cc pc = .ok (.pop, 1)) (k : zG own nm cc nL ret R mc ms Ph (pc + 1) L st S mu cells slots) : zG own nm cc nL ret R mc ms Ph pc L (x :: st) S mu cells slots := by
  intro l p e s m args below meth c D cs ad0 N0 A h ad H locs ls ho hw hl
  exact lv_pop h.1 h.2.1 hd (zr_cat ad x) (k l p e s m args below meth c D cs ad0 N0 A h ad H locs ls ho hw hl)
theorem zg_dup2 {x y : zV} (hd : decode cc pc = .ok (.dup2, 1)) (k : zG own nm cc nL ret R mc ms Ph (pc + 1) L (x :: y :: x :: y :: st) S mu cells slots) : zG own nm cc nL ret R mc ms Ph pc L (x :: y :: st) S mu cells slots := by
  intro l p e s m args below meth c D cs ad0 N0 A h ad H locs ls ho hw hl
  exact lv_dup2_11 h.1 h.2.1 hd (zr_cat ad x) (zr_cat ad y) (k l p e s m args below meth c D cs ad0 N0 A h ad H locs ls ho hw hl)
theorem zg_if_eq {x : Int32} {off : Int} {tgt : Nat} (hd : decode cc pc = .ok (.ifCond .eq off, 3)) (ht : (pc : Int) + off = (tgt : Int)) (kt : x = 0 → zG own nm cc nL ret R mc ms Ph tgt L st S mu cells slots) (kf : ¬ x = 0 → zG own nm cc nL ret R mc ms Ph (pc + 3) L st S mu cells slots) : zG own nm cc nL ret R mc ms Ph pc L (.inl x :: st) S mu cells slots := by
  intro l p e s m args below meth c D cs ad0 N0 A h ad H locs ls ho hw hl
  exact lv_if_eq h.1 h.2.1 hd ht (fun q => kt q l p e s m args below meth c D cs ad0 N0 A h ad H locs ls ho hw hl) (fun q => kf q l p e s m args below meth c D cs ad0 N0 A h ad H locs ls ho hw hl)
theorem zg_icmp_eq {x y : Int32} {off : Int} {tgt : Nat} (hd : decode cc pc = .ok (.if_icmp .eq off, 3)) (ht : (pc : Int) + off = (tgt : Int)) (kt : x = y → zG own nm cc nL ret R mc ms Ph tgt L st S mu cells slots) (kf : ¬ x = y → zG own nm cc nL ret R mc ms Ph (pc + 3) L st S mu cells slots) : zG own nm cc nL ret R mc ms Ph pc L (.inl y :: .inl x :: st) S mu cells slots := by
  intro l p e s m args below meth c D cs ad0 N0 A h ad H locs ls ho hw hl
  exact lv_icmp_eq h.1 h.2.1 hd ht (fun q => kt q l p e s m args below meth c D cs ad0 N0 A h ad H locs ls ho hw hl) (fun q => kf q l p e s m args below meth c D cs ad0 N0 A h ad H locs ls ho hw hl)
theorem zg_if_ne {x : Int32} {off : Int} {tgt : Nat} (hd : decode cc pc = .ok (.ifCond .ne off, 3)) (ht : (pc : Int) + off = (tgt : Int)) (kt : ¬ x = 0 → zG own nm cc nL ret R mc ms Ph tgt L st S mu cells slots) (kf : x = 0 → zG own nm cc nL ret R mc ms Ph (pc + 3) L st S mu cells slots) : zG own nm cc nL ret R mc ms Ph pc L (.inl x :: st) S mu cells slots := by
  intro l p e s m args below meth c D cs ad0 N0 A h ad H locs ls ho hw hl
  exact lv_if_ne h.1 h.2.1 hd ht (fun q => kt q l p e s m args below meth c D cs ad0 N0 A h ad H locs ls ho hw hl) (fun q => kf q l p e s m args below meth c D cs ad0 N0 A h ad H locs ls ho hw hl)
theorem zg_icmp_ne {x y : Int32} {off : Int} {tgt : Nat} (hd : decode cc pc = .ok (.if_icmp .ne off, 3)) (ht : (pc : Int) + off = (tgt : Int)) (kt : ¬ x = y → zG own nm cc nL ret R mc ms Ph tgt L st S mu cells slots) (kf : x = y → zG own nm cc nL ret R mc ms Ph (pc + 3) L st S mu cells slots) : zG own nm cc nL ret R mc ms Ph pc L (.inl y :: .inl x :: st) S mu cells slots := by
  intro l p e s m args below meth c D cs ad0 N0 A h ad H locs ls ho hw hl
  exact lv_icmp_ne h.1 h.2.1 hd ht (fun q => kt q l p e s m args below meth c D cs ad0 N0 A h ad H locs ls ho hw hl) (fun q => kf q l p e s m args below meth c D cs ad0 N0 A h ad H locs ls ho hw hl)
theorem zg_if_lt {x : Int32} {off : Int} {tgt : Nat} (hd : decode cc pc = .ok (.ifCond .lt off, 3)) (ht : (pc : Int) + off = (tgt : Int)) (kt : x < 0 → zG own nm cc nL ret R mc ms Ph tgt L st S mu cells slots) (kf : ¬ x < 0 → zG own nm cc nL ret R mc ms Ph (pc + 3) L st S mu cells slots) : zG own nm cc nL ret R mc ms Ph pc L (.inl x :: st) S mu cells slots := by
  intro l p e s m args below meth c D cs ad0 N0 A h ad H locs ls ho hw hl
  exact lv_if_lt h.1 h.2.1 hd ht (fun q => kt q l p e s m args below meth c D cs ad0 N0 A h ad H locs ls ho hw hl) (fun q => kf q l p e s m args below meth c D cs ad0 N0 A h ad H locs ls ho hw hl)
theorem zg_icmp_lt {x y : Int32} {off : Int} {tgt : Nat} (hd : decode cc pc = .ok (.if_icmp .lt off, 3)) (ht : (pc : Int) + off = (tgt : Int)) (kt : x < y → zG own nm cc nL ret R mc ms Ph tgt L st S mu cells slots) (kf : ¬ x < y → zG own nm cc nL ret R mc ms Ph (pc + 3) L st S mu cells slots) : zG own nm cc nL ret R mc ms Ph pc L (.inl y :: .inl x :: st) S mu cells slots := by
  intro l p e s m args below meth c D cs ad0 N0 A h ad H locs ls ho hw hl
  exact lv_icmp_lt h.1 h.2.1 hd ht (fun q => kt q l p e s m args below meth c D cs ad0 N0 A h ad H locs ls ho hw hl) (fun q => kf q l p e s m args below meth c D cs ad0 N0 A h ad H locs ls ho hw hl)
theorem zg_if_ge {x : Int32} {off : Int} {tgt : Nat} (hd : decode cc pc = .ok (.ifCond .ge off, 3)) (ht : (pc : Int) + off = (tgt : Int)) (kt : 0 ≤ x → zG own nm cc nL ret R mc ms Ph tgt L st S mu cells slots) (kf : ¬ 0 ≤ x → zG own nm cc nL ret R mc ms Ph (pc + 3) L st S mu cells slots) : zG own nm cc nL ret R mc ms Ph pc L (.inl x :: st) S mu cells slots := by
  intro l p e s m args below meth c D cs ad0 N0 A h ad H locs ls ho hw hl
  exact lv_if_ge h.1 h.2.1 hd ht (fun q => kt q l p e s m args below meth c D cs ad0 N0 A h ad H locs ls ho hw hl) (fun q => kf q l p e s m args below meth c D cs ad0 N0 A h ad H locs ls ho hw hl)
theorem zg_icmp_ge {x y : Int32} {off : Int} {tgt : Nat} (hd : decode cc pc = .ok (.if_icmp .ge off, 3)) (ht : (pc : Int) + off = (tgt : Int)) (kt : y ≤ x → zG own nm cc nL ret R mc ms Ph tgt L st S mu cells slots) (kf : ¬ y ≤ x → zG own nm cc nL ret R mc ms Ph (pc + 3) L st S mu cells slots) : zG own nm cc nL ret R mc ms Ph pc L (.inl y :: .inl x :: st) S mu cells slots := by
  intro l p e s m args below meth c D cs ad0 N0 A h ad H locs ls ho hw hl
  exact lv_icmp_ge h.1 h.2.1 hd ht (fun q => kt q l p e s m args below meth c D cs ad0 N0 A h ad H locs ls ho hw hl) (fun q => kf q l p e s m args below meth c D cs ad0 N0 A h ad H locs ls ho hw hl)
theorem zg_if_gt {x : Int32} {off : Int} {tgt : Nat} (hd : decode cc pc = .ok (.ifCond .gt off, 3)) (ht : (pc : Int) + off = (tgt : Int)) (kt : 0 < x → zG own nm cc nL ret R mc ms Ph tgt L st S mu cells slots) (kf : ¬ 0 < x → zG own nm cc nL ret R mc ms Ph (pc + 3) L st S mu cells slots) : zG own nm cc nL ret R mc ms Ph pc L (.inl x :: st) S mu cells slots := by
  intro l p e s m args below meth c D cs ad0 N0 A h ad H locs ls ho hw hl
  exact lv_if_gt h.1 h.2.1 hd ht (fun q => kt q l p e s m args below meth c D cs ad0 N0 A h ad H locs ls ho hw hl) (fun q => kf q l p e s m args below meth c D cs ad0 N0 A h ad H locs ls ho hw hl)
theorem zg_icmp_gt {x y : Int32} {off : Int} {tgt : Nat} (hd : decode cc pc = .ok (.if_icmp .gt off, 3)) (ht : (pc : Int) + off = (tgt : Int)) (kt : y < x → zG own nm cc nL ret R mc ms Ph tgt L st S mu cells slots) (kf : ¬ y < x → zG own nm cc nL ret R mc ms Ph (pc + 3) L st S mu cells slots) : zG own nm cc nL ret R mc ms Ph pc L (.inl y :: .inl x :: st) S mu cells slots := by
  intro l p e s m args below meth c D cs ad0 N0 A h ad H locs ls ho hw hl
  exact lv_icmp_gt h.1 h.2.1 hd ht (fun q => kt q l p e s m args below meth c D cs ad0 N0 A h ad H locs ls ho hw hl) (fun q => kf q l p e s m args below meth c D cs ad0 N0 A h ad H locs ls ho hw hl)
theorem zg_if_le {x : Int32} {off : Int} {tgt : Nat} (hd : decode cc pc = .ok (.ifCond .le off, 3)) (ht : (pc : Int) + off = (tgt : Int)) (kt : x ≤ 0 → zG own nm cc nL ret R mc ms Ph tgt L st S mu cells slots) (kf : ¬ x ≤ 0 → zG own nm cc nL ret R mc ms Ph (pc + 3) L st S mu cells slots) : zG own nm cc nL ret R mc ms Ph pc L (.inl x :: st) S mu cells slots := by
  intro l p e s m args below meth c D cs ad0 N0 A h ad H locs ls ho hw hl
  exact lv_if_le h.1 h.2.1 hd ht (fun q => kt q l p e s m args below meth c D cs ad0 N0 A h ad H locs ls ho hw hl) (fun q => kf q l p e s m args below meth c D cs ad0 N0 A h ad H locs ls ho hw hl)
theorem zg_icmp_le {x y : Int32} {off : Int} {tgt : Nat} (hd : decode cc pc = .ok (.if_icmp .le off, 3)) (ht : (pc : Int) + off = (tgt : Int)) (kt : x ≤ y → zG own nm cc nL ret R mc ms Ph tgt L st S mu cells slots) (kf : ¬ x ≤ y → zG own nm cc nL ret R mc ms Ph (pc + 3) L st S mu cells slots) : zG own nm cc nL ret R mc ms Ph pc L (.inl y :: .inl x :: st) S mu cells slots := by
  intro l p e s m args below meth c D cs ad0 N0 A h ad H locs ls ho hw hl
  exact lv_icmp_le h.1 h.2.1 hd ht (fun q => kt q l p e s m args below meth c D cs ad0 N0 A h ad H locs ls ho hw hl) (fun q => kf q l p e s m args below meth c D cs ad0 N0 A h ad H locs ls ho hw hl)
theorem zg_goto {off : Int} {tgt : Nat} (hd : decode cc pc = .ok (.goto off, 3)) (ht : (pc : Int) + off = (tgt : Int)) (k : zG own nm cc nL ret R mc ms Ph tgt L st S mu cells slots) : zG own nm cc nL ret R mc ms Ph pc L st S mu cells slots := by
  intro l p e s m args below meth c D cs ad0 N0 A h ad H locs ls ho hw hl
  exact lv_goto h.1 h.2.1 hd ht (k l p e s m args below meth c D cs ad0 N0 A h ad H locs ls ho hw hl)
theorem zg_lookup {dflt : Int} {ps : Array (Int × Int)} {len : Nat} {x : Int32} {off : Int} {tgt : Nat} (hd : decode cc pc = .ok (.lookupswitch dflt ps, len)) (hp : (ps.toList.zip (ps.toList.drop 1)).all (fun (a, next) => a.1 < next.1) = true) (hf : Op.lookupswitch.offset ps.toList dflt x.toInt = off) (ht : (pc : Int) + off = (tgt : Int)) (k : zG own nm cc nL ret R mc ms Ph tgt L st S mu cells slots) : zG own nm cc nL ret R mc ms Ph pc L (.inl x :: st) S mu cells slots := by
  intro l p e s m args below meth c D cs ad0 N0 A h ad H locs ls ho hw hl
  exact lv_lookup h.1 h.2.1 hd hp hf ht (k l p e s m args below meth c D cs ad0 N0 A h ad H locs ls ho hw hl)
theorem zg_tableOut {dflt lo hi : Int} {offs : Array Int} {len : Nat} {x : Int32} {tgt : Nat} (hd : decode cc pc = .ok (.tableswitch dflt lo hi offs, len)) (hf : x.toInt < lo ∨ hi < x.toInt) (ht : (pc : Int) + dflt = (tgt : Int)) (k : zG own nm cc nL ret R mc ms Ph tgt L st S mu cells slots) : zG own nm cc nL ret R mc ms Ph pc L (.inl x :: st) S mu cells slots := by
  intro l p e s m args below meth c D cs ad0 N0 A h ad H locs ls ho hw hl
  exact lv_tableOut h.1 h.2.1 hd hf ht (k l p e s m args below meth c D cs ad0 N0 A h ad H locs ls ho hw hl)
theorem zg_tableIn {dflt lo hi : Int} {offs : Array Int} {len : Nat} {x : Int32} {off : Int} {tgt : Nat} (hd : decode cc pc = .ok (.tableswitch dflt lo hi offs, len)) (h1 : ¬ x.toInt < lo) (h2 : ¬ hi < x.toInt) (hf : offs[(x.toInt - lo).toNat]? = some off) (ht : (pc : Int) + off = (tgt : Int)) (k : zG own nm cc nL ret R mc ms Ph tgt L st S mu cells slots) : zG own nm cc nL ret R mc ms Ph pc L (.inl x :: st) S mu cells slots := by
  intro l p e s m args below meth c D cs ad0 N0 A h ad H locs ls ho hw hl
  exact lv_tableIn h.1 h.2.1 hd h1 h2 hf ht (k l p e s m args below meth c D cs ad0 N0 A h ad H locs ls ho hw hl)
theorem zg_topi {x : Int32} (k : ∀ y : Int32, y = x → zG own nm cc nL ret R mc ms Ph pc L (.inl y :: st) S mu cells slots) : zG own nm cc nL ret R mc ms Ph pc L (.inl x :: st) S mu cells slots := k x rfl
theorem zg_val {x y : Int32} (e : x = y) (k : zG own nm cc nL ret R mc ms Ph pc L (.inl y :: st) S mu cells slots) : zG own nm cc nL ret R mc ms Ph pc L (.inl x :: st) S mu cells slots := e ▸ k
theorem zg_loc {L2 : List (Option zV)} (e : L = L2) (k : zG own nm cc nL ret R mc ms Ph pc L2 st S mu cells slots) : zG own nm cc nL ret R mc ms Ph pc L st S mu cells slots := e ▸ k
theorem zg_mu {mu2 : zU} (e : mu = mu2) (k : zG own nm cc nL ret R mc ms Ph pc L st S mu2 cells slots) : zG own nm cc nL ret R mc ms Ph pc L st S mu cells slots := e ▸ k
theorem zg_widen {k2 n2 : Nat} (h1 : cells ≤ k2) (h2 : slots ≤ n2) (k : zG own nm cc nL ret R mc ms Ph pc L st S mu k2 n2) : zG own nm cc nL ret R mc ms Ph pc L st S mu cells slots := fun l p e s m args below meth c D cs ad0 N0 A h ad H locs ls ho hw hl => W.widen h1 h2 (k l p e s m args below meth c D cs ad0 N0 A h ad H locs ls ho hw hl)
end ZG
end
section
/-! fields, arrays, ends and calls of the machine over int rows -/
def zrt (t : FieldType) : Bool := match t with
  | .object _ => true
  | .array _ => true
  | _ => false
theorem zrt_ok {t : FieldType} (h : zrt t = true) (ad : Nat → Nat) (r : Nat) : narrow t (zr ad (.inr r)) = zr ad (.inr r) ∧ fits t (zr ad (.inr r)) = true ∧ defaultValue t = .null := by
  cases t <;> first | (cases h; done) | (cases r <;> exact ⟨rfl, rfl, rfl⟩)
theorem zfs_get {ad : Nat → Nat} {rho : Nat → Nat} {m : Nat → Int32} {ci j : Nat} (h : j < znf ci) : (zfs ad rho m ci)[j]? = some (zfv ad rho m ci j) := by simp [zfs, h]
theorem zfs_len {ad : Nat → Nat} {rho : Nat → Nat} {m : Nat → Int32} {ci : Nat} : (zfs ad rho m ci).length = znf ci := by simp [zfs]
theorem zfs_set {ad : Nat → Nat} {rho : Nat → Nat} {m : Nat → Int32} {ci j : Nat} {x : Int32} (hj : j ∉ zrefs ci) : zfs ad rho (upd m j x) ci = (zfs ad rho m ci).set j (.int x) := by
  apply List.ext_getElem?
  intro i
  rw [List.getElem?_set]
  by_cases hi : i < znf ci
  · by_cases hij : j = i
    · subst hij
      simp [zfs, zfv, hi, hj, upd]
    · have hne : ¬ i = j := fun z => hij z.symm
      simp [zfs, zfv, hi, hij, hne, upd]
  · by_cases hij : j = i
    · subst hij
      simp [zfs, hi]
    · simp [zfs, hi, hij]
theorem zfs_setR {ad : Nat → Nat} {rho : Nat → Nat} {m : Nat → Int32} {ci j r : Nat} (hj : j ∈ zrefs ci) : zfs ad (fun i => if i = j then r else rho i) m ci = (zfs ad rho m ci).set j (zr ad (.inr r)) := by
  apply List.ext_getElem?
  intro i
  rw [List.getElem?_set]
  by_cases hi : i < znf ci
  · by_cases hij : j = i
    · subst hij
      simp [zfs, zfv, hi, hj]
    · have hne : ¬ i = j := fun z => hij z.symm
      simp [zfs, zfv, hi, hij, hne]
  · by_cases hij : j = i
    · subst hij
      simp [zfs, hi]
    · simp [zfs, hi, hij]
/-- what is known of the four classes -/
theorem zck {ci : Nat} {C : String} {T : u_T} {N : Nat} (h : vwCl[ci]? = some (C, T, N)) : (∀ w ∈ u_ws C T N, w ∈ zwd) ∧ znf ci = N ∧ (∀ a, a < N → ∀ b, b < N → a ≠ b → (T a).2.1 ≠ (T b).2.1) ∧ (∀ j, j < N → (T j).1 = C) ∧ ∃ ty : Nat → FieldType, (∀ k, k < N → parseFieldDescriptor (T k).2.2.1 = some (ty k)) ∧ ∀ j, j < N → if j ∈ zrefs ci then zrt (ty j) = true ∧ (T j).2.2.2 = true else ty j = .int ∧ (T j).2.2.2 = false := by
  match ci, h with
  | 0, h => cases h; exact ⟨kf0, rfl, nmX0, by decide +kernel, tyX0, tyX0_ok, by decide +kernel⟩
  | 1, h => cases h; exact ⟨kf1, rfl, nmX1, by decide +kernel, tyX1, tyX1_ok, by decide +kernel⟩
  | 2, h => cases h; exact ⟨kf2, rfl, nmX2, by decide +kernel, tyX2, tyX2_ok, by decide +kernel⟩
  | 3, h => cases h; exact ⟨kf3, rfl, nmX3, by decide +kernel, tyX3, tyX3_ok, by decide +kernel⟩
  | k + 4, h => simp at h
theorem zin {i : Int32} {j n : Nat} (hi : i = nI j) (hj : j < n) (hn : n < 2 ^ 31) : vp_in i n ∧ i.toNatClampNeg = j := by
  subst hi
  exact ⟨vp_in_nI hj hn, nI_clamp (Nat.lt_trans hj hn)⟩
section ZH
variable {own nm : String} {cc : ByteArray} {nL : Nat} {ret : Option FieldType} {R : Room} {mc ms : Nat} {Ph : Option zV → zS → zU → Prop} {pc : Nat} {L : List (Option zV)} {st : List zV} {S : zS} {mu : zU} {cells slots : Nat}
theorem zg_getI {ix ci j k : Nat} (hd : decode cc pc = .ok (.getfield ix, 3)) (hf : zfl own ix ci j) (hj : j ∉ zrefs ci) (hk : S.2.1 k = (0, ci)) (hN : k < S.1) (kk : zG own nm cc nL ret R mc ms Ph (pc + 3) L (.inl (mu k j) :: st) S mu cells slots) : zG own nm cc nL ret R mc ms Ph pc L (.inr (k + 1) :: st) S mu cells slots := by
  obtain ⟨C, T, N, hc, hjN, hm⟩ := hf
  obtain ⟨hin, hnf, -⟩ := zck hc
  intro l p e s m args below meth c D cs ad0 N0 A h ad H locs ls ho hw hl
  refine va_get (D := D) (ci := ci) (v := .int (mu k j)) (C := C) (T := T) (N := N) h.1 h.2.1 h.2.2.2.2.2.1 hin h.2.2.2.2.1 h.2.2.2.2.2.2.2.2.2.1 hw.1 k ((zws_get cs ad S mu hN).trans (by rw [zent_o hk])) hc j hjN (h.2.2.2.2.2.1 _ hm) (fun _ h9 => h9) ?_ hd (kk l p e s m args below meth c D cs ad0 N0 A h ad H locs ls ho hw hl)
  rw [zfs_get (by rw [hnf]; exact hjN), zfv, if_neg hj]
theorem zg_getR {ix ci j k r : Nat} (hd : decode cc pc = .ok (.getfield ix, 3)) (hf : zfl own ix ci j) (hj : j ∈ zrefs ci) (hk : S.2.1 k = (0, ci)) (hN : k < S.1) (hr : S.2.2 k j = r) (kk : zG own nm cc nL ret R mc ms Ph (pc + 3) L (.inr r :: st) S mu cells slots) : zG own nm cc nL ret R mc ms Ph pc L (.inr (k + 1) :: st) S mu cells slots := by
  obtain ⟨C, T, N, hc, hjN, hm⟩ := hf
  obtain ⟨hin, hnf, -⟩ := zck hc
  subst hr
  intro l p e s m args below meth c D cs ad0 N0 A h ad H locs ls ho hw hl
  refine va_get (D := D) (ci := ci) (v := zr ad (.inr (S.2.2 k j))) (C := C) (T := T) (N := N) h.1 h.2.1 h.2.2.2.2.2.1 hin h.2.2.2.2.1 h.2.2.2.2.2.2.2.2.2.1 hw.1 k ((zws_get cs ad S mu hN).trans (by rw [zent_o hk])) hc j hjN (h.2.2.2.2.2.1 _ hm) (fun _ h9 => h9) ?_ hd (kk l p e s m args below meth c D cs ad0 N0 A h ad H locs ls ho hw hl)
  rw [zfs_get (by rw [hnf]; exact hjN), zfv, if_pos hj]
theorem zg_putI {ix ci j k : Nat} {x : Int32} (hd : decode cc pc = .ok (.putfield ix, 3)) (hf : zfl own ix ci j) (hj : j ∉ zrefs ci) (hk : S.2.1 k = (0, ci)) (hN : k < S.1) (kk : zG own nm cc nL ret R mc ms Ph (pc + 3) L st S (zup mu k j x) cells slots) : zG own nm cc nL ret R mc ms Ph pc L (.inl x :: .inr (k + 1) :: st) S mu cells slots := by
  obtain ⟨C, T, N, hc, hjN, hm⟩ := hf
  obtain ⟨hin, hnf, hnm, -, ty, hty, hfl⟩ := zck hc
  have hfl := hfl j hjN
  rw [if_neg hj] at hfl
  intro l p e s m args below meth c D cs ad0 N0 A h ad H locs ls ho hw hl
  refine va_put (D := D) (ci := ci) (v := .int x) (ty := ty j) (C := C) (T := T) (N := N) h.1 h.2.1 h.2.2.2.2.2.1 hin ty hty hnm h.2.2.2.2.1 h.2.2.2.2.2.2.2.2.2.1 hw.1 hw.2.1 hw.2.2 k ((zws_get cs ad S mu hN).trans (by rw [zent_o hk])) hc j hjN (h.2.2.2.2.2.1 _ hm) (fun _ h9 => h9) hfl.2 (hty j hjN) (by rw [hfl.1]; rfl) (by rw [hfl.1]; rfl) (by rw [zfs_len, hnf]; exact hjN) hd (fun H1 locs1 hP hD hS => ?_)
  have hz : (zws cs ad S mu).set k (ad k, .inr (ci, (zfs ad (S.2.2 k) (mu k) ci).set j (.int x))) = zws cs ad S (zup mu k j x) := zws_set rfl (by rw [zent_o hk, zup_s, zfs_set hj]) (fun q hq => zent_q (zup_n hq))
  rw [hz] at hP hD
  exact kk l p e s m args below meth c D cs ad0 N0 A h ad H1 locs1 ls ho ⟨hP, hD, hS⟩ hl
theorem zg_putR {ix ci j k r : Nat} (hd : decode cc pc = .ok (.putfield ix, 3)) (hf : zfl own ix ci j) (hj : j ∈ zrefs ci) (hk : S.2.1 k = (0, ci)) (hN : k < S.1) (hi : nm = "<init>") (hown : vwCl[ci]?.map (fun q => q.1) = some own) (kk : zG own nm cc nL ret R mc ms Ph (pc + 3) L st (S.1, S.2.1, zur S.2.2 k j r) mu cells slots) : zG own nm cc nL ret R mc ms Ph pc L (.inr r :: .inr (k + 1) :: st) S mu cells slots := by
  obtain ⟨C, T, N, hc, hjN, hm⟩ := hf
  obtain ⟨hin, hnf, hnm, hC, ty, hty, hfl⟩ := zck hc
  have hfl := hfl j hjN
  rw [if_pos hj] at hfl
  have hCo : C = own := by
    rw [hc] at hown
    exact Option.some.inj hown
  intro l p e s m args below meth c D cs ad0 N0 A h ad H locs ls ho hw hl
  refine va_putF (D := D) (ci := ci) (v := zr ad (.inr r)) (ty := ty j) (C := C) (T := T) (N := N) h.1 h.2.1 h.2.2.2.2.2.1 hin ty hty hnm h.2.2.2.2.1 h.2.2.2.2.2.2.2.2.2.1 hw.1 hw.2.1 hw.2.2 k ((zws_get cs ad S mu hN).trans (by rw [zent_o hk])) hc j hjN (h.2.2.2.2.2.1 _ hm) (fun _ h9 => h9) hfl.2 (h.2.2.2.2.2.2.2.1.trans hi) ((hC j hjN).trans hCo) (hty j hjN) (zrt_ok hfl.1 ad r).1 (zrt_ok hfl.1 ad r).2.1 (by rw [zfs_len, hnf]; exact hjN) hd (fun H1 locs1 hP hD hS => ?_)
  have hz : (zws cs ad S mu).set k (ad k, .inr (ci, (zfs ad (S.2.2 k) (mu k) ci).set j (zr ad (.inr r)))) = zws cs ad (S.1, S.2.1, zur S.2.2 k j r) mu := zws_set rfl (by rw [zent_o (S := (S.1, S.2.1, zur S.2.2 k j r)) (ci := ci) hk, ← zfs_setR hj]; simp [zur]) (fun q hq => by simp [zent, zur, hq])
  rw [hz] at hP hD
  exact kk l p e s m args below meth c D cs ad0 N0 A h ad H1 locs1 ls ho ⟨hP, hD, hS⟩ hl
theorem zg_iald {k n j : Nat} {i : Int32} (hd : decode cc pc = .ok (.iaload, 1)) (hk : S.2.1 k = (1, n)) (hN : k < S.1) (hi : i = nI j) (hj : j < n) (hn : n < 2 ^ 31) (kk : zG own nm cc nL ret R mc ms Ph (pc + 1) L (.inl (mu k j) :: st) S mu cells slots) : zG own nm cc nL ret R mc ms Ph pc L (.inl i :: .inr (k + 1) :: st) S mu cells slots := by
  intro l p e s m args below meth c D cs ad0 N0 A h ad H locs ls ho hw hl
  obtain ⟨hv, hc⟩ := zin hi hj hn
  refine va_iald h.1 h.2.1 h.2.2.2.2.2.2.2.2.2.1 hw.1 k 0 ((zws_get cs ad S mu hN).trans (by rw [zent_i hk])) rfl hv hd ?_
  rw [hc]
  exact kk l p e s m args below meth c D cs ad0 N0 A h ad H locs ls ho hw hl
theorem zg_iast {k n j : Nat} {i x : Int32} (hd : decode cc pc = .ok (.iastore, 1)) (hk : S.2.1 k = (1, n)) (hN : k < S.1) (hi : i = nI j) (hj : j < n) (hn : n < 2 ^ 31) (kk : zG own nm cc nL ret R mc ms Ph (pc + 1) L st S (zup mu k j x) cells slots) : zG own nm cc nL ret R mc ms Ph pc L (.inl x :: .inl i :: .inr (k + 1) :: st) S mu cells slots := by
  intro l p e s m args below meth c D cs ad0 N0 A h ad H locs ls ho hw hl
  obtain ⟨hv, hc⟩ := zin hi hj hn
  refine va_iast h.1 h.2.1 h.2.2.2.2.2.2.2.2.2.1 hw.1 hw.2.1 hw.2.2 k 0 ((zws_get cs ad S mu hN).trans (by rw [zent_i hk])) rfl hv hd (fun H1 locs1 hP hD hS => ?_)
  rw [hc] at hP hD
  have hz : (zws cs ad S mu).set k (ad k, .inl (cs.1, n, .inl (upd (mu k) j x))) = zws cs ad S (zup mu k j x) := zws_set rfl (by rw [zent_i hk, zup_s]) (fun q hq => zent_q (zup_n hq))
  rw [hz] at hP hD
  exact kk l p e s m args below meth c D cs ad0 N0 A h ad H1 locs1 ls ho ⟨hP, hD, hS⟩ hl
theorem zg_zald {k n j : Nat} {i : Int32} (hd : decode cc pc = .ok (.baload, 1)) (hk : S.2.1 k = (2, n)) (hN : k < S.1) (hi : i = nI j) (hj : j < n) (hn : n < 2 ^ 31) (kk : zG own nm cc nL ret R mc ms Ph (pc + 1) L (.inl (mu k j) :: st) S mu cells slots) : zG own nm cc nL ret R mc ms Ph pc L (.inl i :: .inr (k + 1) :: st) S mu cells slots := by
  intro l p e s m args below meth c D cs ad0 N0 A h ad H locs ls ho hw hl
  obtain ⟨hv, hc⟩ := zin hi hj hn
  refine va_zald h.1 h.2.1 h.2.2.2.2.2.2.2.2.2.1 hw.1 k 1 ((zws_get cs ad S mu hN).trans (by rw [zent_z hk])) rfl hv hd ?_
  rw [hc]
  exact kk l p e s m args below meth c D cs ad0 N0 A h ad H locs ls ho hw hl
theorem zg_zast {k n j : Nat} {i x : Int32} (hd : decode cc pc = .ok (.bastore, 1)) (hk : S.2.1 k = (2, n)) (hN : k < S.1) (hi : i = nI j) (hj : j < n) (hn : n < 2 ^ 31) (hx : x = 0 ∨ x = 1) (kk : zG own nm cc nL ret R mc ms Ph (pc + 1) L st S (zup mu k j x) cells slots) : zG own nm cc nL ret R mc ms Ph pc L (.inl x :: .inl i :: .inr (k + 1) :: st) S mu cells slots := by
  intro l p e s m args below meth c D cs ad0 N0 A h ad H locs ls ho hw hl
  obtain ⟨hv, hc⟩ := zin hi hj hn
  have hb : vp_nar .boolean x = x := by rcases hx with rfl | rfl <;> decide
  refine va_zast h.1 h.2.1 h.2.2.2.2.2.2.2.2.2.1 hw.1 hw.2.1 hw.2.2 k 1 ((zws_get cs ad S mu hN).trans (by rw [zent_z hk])) rfl hv hd (fun H1 locs1 hP hD hS => ?_)
  rw [hc, hb] at hP hD
  have hz : (zws cs ad S mu).set k (ad k, .inl (cs.2.1, n, .inl (upd (mu k) j x))) = zws cs ad S (zup mu k j x) := zws_set rfl (by rw [zent_z hk, zup_s]) (fun q hq => zent_q (zup_n hq))
  rw [hz] at hP hD
  exact kk l p e s m args below meth c D cs ad0 N0 A h ad H1 locs1 ls ho ⟨hP, hD, hS⟩ hl
theorem zg_pald {k n j r : Nat} {i : Int32} (hd : decode cc pc = .ok (.aaload, 1)) (hk : S.2.1 k = (3, n)) (hN : k < S.1) (hi : i = nI j) (hj : j < n) (hn : n < 2 ^ 31) (hr : S.2.2 k j = r) (kk : zG own nm cc nL ret R mc ms Ph (pc + 1) L (.inr r :: st) S mu cells slots) : zG own nm cc nL ret R mc ms Ph pc L (.inl i :: .inr (k + 1) :: st) S mu cells slots := by
  intro l p e s m args below meth c D cs ad0 N0 A h ad H locs ls ho hw hl
  obtain ⟨hv, hc⟩ := zin hi hj hn
  subst hr
  refine va_aldq h.1 h.2.1 h.2.2.2.2.2.2.2.2.2.1 hw.1 k 2 ((zws_get cs ad S mu hN).trans (by rw [zent_p hk])) rfl hv hd ?_
  rw [hc, zo_rf]
  exact kk l p e s m args below meth c D cs ad0 N0 A h ad H locs ls ho hw hl
theorem zg_sald {k n j r : Nat} {i : Int32} (hd : decode cc pc = .ok (.aaload, 1)) (hk : S.2.1 k = (4, n)) (hN : k < S.1) (hi : i = nI j) (hj : j < n) (hn : n < 2 ^ 31) (hr : S.2.2 k j = r) (kk : zG own nm cc nL ret R mc ms Ph (pc + 1) L (.inr r :: st) S mu cells slots) : zG own nm cc nL ret R mc ms Ph pc L (.inl i :: .inr (k + 1) :: st) S mu cells slots := by
  intro l p e s m args below meth c D cs ad0 N0 A h ad H locs ls ho hw hl
  obtain ⟨hv, hc⟩ := zin hi hj hn
  subst hr
  refine va_aldq h.1 h.2.1 h.2.2.2.2.2.2.2.2.2.1 hw.1 k 3 ((zws_get cs ad S mu hN).trans (by rw [zent_t hk])) rfl hv hd ?_
  rw [hc, zo_rf]
  exact kk l p e s m args below meth c D cs ad0 N0 A h ad H locs ls ho hw hl
theorem zg_past {k n j q : Nat} {i : Int32} (hd : decode cc pc = .ok (.aastore, 1)) (hk : S.2.1 k = (3, n)) (hN : k < S.1) (hi : i = nI j) (hj : j < n) (hn : n < 2 ^ 31) (hq : S.2.1 q = (0, 0)) (hqN : q < S.1) (kk : zG own nm cc nL ret R mc ms Ph (pc + 1) L st (S.1, S.2.1, zur S.2.2 k j (q + 1)) mu cells slots) : zG own nm cc nL ret R mc ms Ph pc L (.inr (q + 1) :: .inl i :: .inr (k + 1) :: st) S mu cells slots := by
  intro l p e s m args below meth c D cs ad0 N0 A h ad H locs ls ho hw hl
  obtain ⟨hv, hc⟩ := zin hi hj hn
  refine va_astq (r := (RX0, TX0, 9)) h.1 h.2.1 h.2.2.2.2.2.2.2.2.2.1 hw.1 hw.2.1 hw.2.2 k 2 q 0 ((zws_get cs ad S mu hN).trans (by rw [zent_p hk])) rfl ((zws_get cs ad S mu hqN).trans (by rw [zent_o hq])) rfl hv hd (fun H1 locs1 hP hD hS => ?_)
  rw [hc] at hP hD
  have hz : (zws cs ad S mu).set k (ad k, .inl (cs.2.2.1, n, .inr (.inr (.inr (.inr (va_up (fun j => zo ad (S.2.2 k j)) j (some (ad q)))))))) = zws cs ad (S.1, S.2.1, zur S.2.2 k j (q + 1)) mu := zws_set rfl (by
    rw [zent_p (S := (S.1, S.2.1, zur S.2.2 k j (q + 1))) (n := n) hk]
    refine congrArg (fun f : Nat → Option Nat => (Sum.inl (cs.2.2.1, n, Sum.inr (Sum.inr (Sum.inr (Sum.inr f)))) : va_E)) (funext fun i => ?_)
    by_cases hij : i = j
    · simp [zur, va_up, hij, zo]
    · simp [zur, va_up, hij]) (fun q hq => by simp [zent, zur, hq])
  rw [hz] at hP hD
  exact kk l p e s m args below meth c D cs ad0 N0 A h ad H1 locs1 ls ho ⟨hP, hD, hS⟩ hl
theorem zg_sast {k n j q : Nat} {i : Int32} (hd : decode cc pc = .ok (.aastore, 1)) (hk : S.2.1 k = (4, n)) (hN : k < S.1) (hi : i = nI j) (hj : j < n) (hn : n < 2 ^ 31) (hq : S.2.1 q = (0, 1)) (hqN : q < S.1) (kk : zG own nm cc nL ret R mc ms Ph (pc + 1) L st (S.1, S.2.1, zur S.2.2 k j (q + 1)) mu cells slots) : zG own nm cc nL ret R mc ms Ph pc L (.inr (q + 1) :: .inl i :: .inr (k + 1) :: st) S mu cells slots := by
  intro l p e s m args below meth c D cs ad0 N0 A h ad H locs ls ho hw hl
  obtain ⟨hv, hc⟩ := zin hi hj hn
  refine va_astq (r := (RX1, TX1, 11)) h.1 h.2.1 h.2.2.2.2.2.2.2.2.2.1 hw.1 hw.2.1 hw.2.2 k 3 q 1 ((zws_get cs ad S mu hN).trans (by rw [zent_t hk])) rfl ((zws_get cs ad S mu hqN).trans (by rw [zent_o hq])) rfl hv hd (fun H1 locs1 hP hD hS => ?_)
  rw [hc] at hP hD
  have hz : (zws cs ad S mu).set k (ad k, .inl (cs.2.2.2, n, .inr (.inr (.inr (.inr (va_up (fun j => zo ad (S.2.2 k j)) j (some (ad q)))))))) = zws cs ad (S.1, S.2.1, zur S.2.2 k j (q + 1)) mu := zws_set rfl (by
    rw [zent_t (S := (S.1, S.2.1, zur S.2.2 k j (q + 1))) (n := n) hk]
    refine congrArg (fun f : Nat → Option Nat => (Sum.inl (cs.2.2.2, n, Sum.inr (Sum.inr (Sum.inr (Sum.inr f)))) : va_E)) (funext fun i => ?_)
    by_cases hij : i = j
    · simp [zur, va_up, hij, zo]
    · simp [zur, va_up, hij]) (fun q hq => by simp [zent, zur, hq])
  rw [hz] at hP hD
  exact kk l p e s m args below meth c D cs ad0 N0 A h ad H1 locs1 ls ho ⟨hP, hD, hS⟩ hl
/-- a whole row is replaced -/
def zrow (mu : zU) (k : Nat) (f : Nat → Int32) : zU := fun q => if q = k then f else mu q
theorem zrow_s (mu : zU) (k : Nat) (f : Nat → Int32) : zrow mu k f k = f := by simp [zrow]
theorem zrow_n {mu : zU} {k q : Nat} {f : Nat → Int32} (h : q ≠ k) : zrow mu k f q = mu q := by simp [zrow, h]
theorem zg_copy {ix k0 k1 n0 n1 a b n : Nat} {sp dp len : Int32} (hd : decode cc pc = .ok (.invokestatic ix, 3)) (hm : Cond.methodLink own ix arraycopyName ∈ zwd) (hk0 : S.2.1 k0 = (1, n0)) (hN0 : k0 < S.1) (hk1 : S.2.1 k1 = (1, n1)) (hN1 : k1 < S.1) (ha : sp = nI a) (hb : dp = nI b) (hn : len = nI n) (h0 : a + n ≤ n0) (h1 : b + n ≤ n1) (hs0 : n0 < 2 ^ 31) (hs1 : n1 < 2 ^ 31) (hr : 1 ≤ R.frames ∧ st.length + 18 ≤ R.locals)
    (kk : zG own nm cc nL ret R mc ms Ph (pc + 3) L st S (zrow mu k1 (va_cpy (mu k0) (mu k1) a b n)) cells slots) : zG own nm cc nL ret R mc ms Ph pc L (.inl len :: .inl dp :: .inr (k1 + 1) :: .inl sp :: .inr (k0 + 1) :: st) S mu cells slots := by
  subst ha; subst hb; subst hn
  intro l p e s m args below meth c D cs ad0 N0 A h ad H locs ls ho hw hl
  have ea : (nI a).toNatClampNeg = a := nI_clamp (by omega)
  have eb : (nI b).toNatClampNeg = b := nI_clamp (by omega)
  have en : (nI n).toNatClampNeg = n := nI_clamp (by omega)
  refine va_copyi (ty := .int) h.1 h.2.1 (by rw [h.2.2.2.1]; exact hl.2.1.symm) h.2.2.2.2.1 (h.2.2.2.2.2.1 _ hm) (h.2.2.2.2.2.1 _ kv_arraycopy) (h.2.2.2.2.2.1 _ kt_arraycopy) (h.2.2.2.2.2.1 _ kiJ10) h.2.2.2.2.2.2.2.2.2.1 hw.1 hw.2.1 hw.2.2 k0 k1 0 0 ((zws_get cs ad S mu hN0).trans (by rw [zent_i hk0])) ((zws_get cs ad S mu hN1).trans (by rw [zent_i hk1])) rfl rfl rfl (nI_pos (by omega)) (nI_pos (by omega)) (nI_pos (by omega)) (by rw [ea, en]; exact h0) (by rw [eb, en]; exact h1) (fun _ _ => rfl) hr.1 (by rw [zr_sum]; exact Nat.le_trans (Nat.le_of_eq rfl) hr.2) hd (fun H1 locs1 hP hD hS => ?_)
  rw [ea, eb, en] at hP hD
  have hz : (zws cs ad S mu).set k1 (ad k1, .inl (cs.1, n1, .inl (va_cpy (mu k0) (mu k1) a b n))) = zws cs ad S (zrow mu k1 (va_cpy (mu k0) (mu k1) a b n)) := zws_set rfl (by rw [zent_i hk1, zrow_s]) (fun q hq => zent_q (zrow_n hq))
  rw [hz] at hP hD
  exact kk l p e s m args below meth c D cs ad0 N0 A h ad H1 locs1 ls ho ⟨hP, hD, hS⟩ hl
/-- the ends -/
theorem zg_iret {x : Int32} (hd : decode cc pc = .ok (.ireturn, 1)) (hr : ret = some .int) (hq : Ph (some (.inl x)) S mu) : zG own nm cc nL ret R cells slots Ph pc L [.inl x] S mu cells slots := by
  intro l p e s m args below meth c D cs ad0 N0 A h ad H locs ls ho hw hl
  exact W.iret (v := x) h.1 h.2.1 (h.2.2.1.trans hr) (fun t ht hW => ⟨some (.inl x), S, mu, ad, rfl, hq, ho, by rw [ht]; exact hw.1, hw.2.1, hw.2.2.F ht⟩) hw.2.2.2.2 hd h.2.2.2.2.2.2.1
theorem zg_zret {x : Int32} (hd : decode cc pc = .ok (.ireturn, 1)) (hr : ret = some .boolean) (hx : x = 0 ∨ x = 1) (hq : Ph (some (.inl x)) S mu) : zG own nm cc nL ret R cells slots Ph pc L [.inl x] S mu cells slots := by
  intro l p e s m args below meth c D cs ad0 N0 A h ad H locs ls ho hw hl
  exact W.zret (v := x) h.1 h.2.1 (h.2.2.1.trans hr) (by rcases hx with rfl | rfl <;> rfl) (fun t ht hW => ⟨some (.inl x), S, mu, ad, rfl, hq, ho, by rw [ht]; exact hw.1, hw.2.1, hw.2.2.F ht⟩) hw.2.2.2.2 hd h.2.2.2.2.2.2.1
theorem zg_vret (hd : decode cc pc = .ok (.return_, 1)) (hr : ret = none) (hq : Ph none S mu) : zG own nm cc nL ret R cells slots Ph pc L [] S mu cells slots := by
  intro l p e s m args below meth c D cs ad0 N0 A h ad H locs ls ho hw hl
  exact W.vret h.1 h.2.1 (h.2.2.1.trans hr) (fun t ht hW => ⟨none, S, mu, ad, rfl, hq, ho, by rw [ht]; exact hw.1, hw.2.1, hw.2.2.F ht⟩) hw.2.2.2.2 hd h.2.2.2.2.2.2.1
end ZH
end
section
/-! calls of the machine over int rows -/
theorem zgoodIn {y : MethodName} {cc : ByteArray} {nL : Nat} {ret : Option FieldType} (h : Cond.code y cc nL ret ∈ zwd) : GoodIn zwd (Cond.code y cc nL ret :: zwd) := by
  intro w hw
  rcases List.mem_cons.mp hw with rfl | hw
  · exact ⟨h, zgood h⟩
  · exact ⟨hw, zgood hw⟩
theorem zAg_trans {ad0 ad ad1 : Nat → Nat} {N0 : Nat} {S S1 : zS} (h : zAg ad0 ad N0 S) (h1 : zAg ad ad1 S.1 S1) : zAg ad0 ad1 N0 S1 := by
  refine ⟨fun k hk => (h1.1 k (Nat.lt_of_lt_of_le hk h.2.1)).trans (h.1 k hk), Nat.le_trans h.2.1 h1.2.1, fun e => ?_⟩
  have e1 : S.1 = N0 := by have := h.2.1; have := h1.2.1; omega
  rw [h1.2.2 (by omega), h.2.2 e1]
theorem zPc_blind (D : va_G) (cs : zC) (ad : Nat → Nat) (S : zS) (mu : zU) (sz : Nat) (av : List Value) : FrameBlind (va_Pc av (zPc D cs ad S mu sz)) := by
  intro a U g mk q
  obtain ⟨q0, q1, qP, qD, qK, qX⟩ := q
  exact ⟨q0, q1, qP, qD, va_K.moved (u := U) (U := U.calling g mk a) (Vm.Alike.refl U.vm) qK, zX_same rfl qX⟩
section ZC
variable {own nm : String} {cc : ByteArray} {nL : Nat} {ret : Option FieldType} {R : Room} {mc ms : Nat} {Ph : Option zV → zS → zU → Prop} {pc : Nat} {L : List (Option zV)} {st rest : List zV} {S : zS} {mu : zU} {cells slots : Nat}
variable {y : MethodName} {cc2 : ByteArray} {nL2 : Nat} {ret2 : Option FieldType} {d2 mc2 ms2 : Nat} {As : List zV} {Ps : Option zV → zS → zU → Prop}
/-- references of a list lie below the number of places -/
def zok (S : zS) (L : List (Option zV)) : Prop := ∀ v ∈ L, ∀ q : Nat, v = some (.inr (q + 1)) → q < S.1
theorem zok_ls {ad ad1 : Nat → Nat} {S : zS} {L : List (Option zV)} (h : ∀ k, k < S.1 → ad1 k = ad k) (hk : zok S L) {ls : Array Slot} (hl : zLs ad ls nL L) : zLs ad1 ls nL L := by
  refine ⟨hl.1, hl.2.1, hl.2.2.1, fun i v hv => ?_⟩
  rw [hl.2.2.2 i v hv]
  rcases v with x | _ | q
  · rfl
  · rfl
  · have := hk _ (List.mem_of_getElem? hv) q rfl
    simp [zr, h q this]
theorem zok_st {ad ad1 : Nat → Nat} {S : zS} (h : ∀ k, k < S.1 → ad1 k = ad k) : ∀ {st : List zV}, zok S (st.map some) → st.map (zr ad1) = st.map (zr ad)
  | [], _ => rfl
  | v :: t, hk => by
    rw [List.map_cons, List.map_cons, zok_st h (st := t) (fun w hw => hk w (by rw [List.map_cons]; exact List.mem_cons_of_mem _ hw))]
    congr 1
    rcases v with x | _ | q
    · rfl
    · rfl
    · have := hk (some (.inr (q + 1))) (by rw [List.map_cons]; exact List.mem_cons_self) q rfl
      simp [zr, h q this]
theorem zg_after {p : Program} {l : Launch} {e : Env} {s : State} {m : MethodId} {args : Array Value} {below : List Frame} {meth : Method} {c : Code} {D : va_G} {cs : zC} {ad0 : Nat → Nat} {N0 : Nat} {A : Nat → Prop} (h : zH own nm cc nL ret p s m args meth c D cs A) {ad : Nat → Nat} {H : Heap} {locs : List Loc} {ls : Array Slot} (ho : zAg ad0 ad N0 S) (hw : zWd cs ad S mu A D s.heap H locs) (hl : zLs ad ls nL L) {st0 : List Value} {a : Array Value}
    (hr : va_Run p l e R s m args below meth c H locs cells slots mc2 ms2 (F0 m pc ls st0) (rest.map (zr ad)) (zQ D cs ad S.1 (va_A (zws cs ad S mu) H.size) Ps a) (va_A (zws cs ad S mu) H.size))
    (hS : (∀ v S2 mu2, Ps v S2 mu2 → S2.1 = S.1) ∨ (zok S L ∧ zok S (rest.map some)))
    (kk : ∀ v S2 mu2, Ps v S2 mu2 → zG own nm cc nL ret R mc ms Ph (pc + 3) L (v.toList ++ rest) S2 mu2 (cells + mc2) (slots + ms2)) : W p l e R s m args below meth c H locs cells slots (MQ below (zQ D cs ad0 N0 A Ph) args s mc ms A) (F0 m pc ls st0) := by
  intro T hT X
  obtain ⟨v, st₀, t, T', L', h0, X', hL, e1, e2, ⟨v', S', mu', ad', hv, hPs, hag, hP', hD', hz, hk⟩, hst⟩ := hr T hT X
  have hv' : v = v'.map (zr ad') := by cases hv; rfl
  have hsub := zA_sub hw h.2.2.2.2.2.2.2.2.1
  rw [h0] at hz hk
  have hl' : zLs ad' ls nL L ∧ rest.map (zr ad') = rest.map (zr ad) := by
    rcases hS with hS | hS
    · have := hag.2.2 (hS _ _ _ hPs)
      subst this
      exact ⟨hl, rfl⟩
    · exact ⟨zok_ls hag.1 hS.1 hl, zok_st hag.1 hS.2⟩
  obtain ⟨t2, a1, b1⟩ := kk v' S' mu' hPs l p e s m args below meth c D cs ad0 N0 A h ad' T'.heap (locs ++ L') ls (zAg_trans ho hag)
    ⟨by rw [e1]; exact hP', hD'.weaken (fun _ _ _ q => hsub _ q), Nat.le_trans hw.2.2.1 (by rw [e1]; exact hz), fun q h1 h2 => by rw [e1, hk q (Nat.lt_of_lt_of_le h1 hw.2.2.1) (fun z => h2 (hsub q z))]; exact hw.2.2.2.1 q h1 h2, fun q hq => by
      rcases List.mem_append.mp hq with h3 | h3
      · exact hw.2.2.2.2 q h3
      · exact hsub _ (hL q h3)⟩ hl'.1 T' rfl X'
  refine ⟨t2, hst t2 ?_, b1⟩
  have : List.map (zr ad') (v'.toList ++ rest) = v.toList ++ List.map (zr ad) rest := by
    rw [List.map_append, hl'.2, hv']
    cases v' <;> rfl
  rw [this] at a1
  exact a1
/-- an object's method that is called by invokevirtual -/
def zcv (y : MethodName) (ci : Nat) (cc : ByteArray) (nL : Nat) (ret : Option FieldType) (n : Nat) : Prop :=
  vwCl[ci]?.map (fun q => q.1) = some y.cls ∧ Cond.instanceMethod y ∈ zwd ∧ Cond.selects y.cls y y ∈ zwd ∧ Cond.initialized y.cls ∈ zwd ∧ Cond.code y cc nL ret ∈ zwd ∧ (y.cls ≠ "java/lang/invoke/MethodHandle" ∧ y.cls ≠ "java/lang/invoke/VarHandle" ∧ (parseMethodDescriptor y.desc).map (fun d => d.parameters.length) = some n)
/-- a static method, and a constructor -/
def zct (y : MethodName) (cc : ByteArray) (nL : Nat) (ret : Option FieldType) (n : Nat) : Prop :=
  Cond.static y ∈ zwd ∧ Cond.initialized y.cls ∈ zwd ∧ Cond.code y cc nL ret ∈ zwd ∧ (y.cls ≠ "java/lang/invoke/MethodHandle" ∧ y.cls ≠ "java/lang/invoke/VarHandle" ∧ (parseMethodDescriptor y.desc).map (fun d => d.parameters.length) = some n)
def zcn (y : MethodName) (cc : ByteArray) (nL n : Nat) : Prop :=
  y.name = "<init>" ∧ Cond.instanceMethod y ∈ zwd ∧ Cond.initialized y.cls ∈ zwd ∧ Cond.code y cc nL none ∈ zwd ∧ (y.cls ≠ "java/lang/invoke/MethodHandle" ∧ y.cls ≠ "java/lang/invoke/VarHandle" ∧ (parseMethodDescriptor y.desc).map (fun d => d.parameters.length) = some n)
def zfit (R : Room) (nL d : Nat) : Prop := d + 1 ≤ R.frames ∧ 8 + (nL + 11) + 38 * d ≤ R.locals
theorem zg_callV {ix ci n k : Nat} (hM : zM y cc2 nL2 ret2 d2 mc2 ms2 (.inr (k + 1) :: As) S mu Ps) (hd : decode cc pc = .ok (.invokevirtual ix, 3)) (hv : zcv y ci cc2 nL2 ret2 n) (hm : Cond.methodLink own ix y ∈ zwd) (hn : As.length = n) (hk : S.2.1 k = (0, ci)) (hN : k < S.1) (hst : st = As.reverse ++ .inr (k + 1) :: rest) (hr8 : rest.length ≤ 8) (hR : zfit R nL2 d2) (hf : cells + mc2 ≤ R.cells ∧ slots + ms2 ≤ R.slots)
    (hS : (∀ v S2 mu2, Ps v S2 mu2 → S2.1 = S.1) ∨ (zok S L ∧ zok S (rest.map some))) (kk : ∀ v S2 mu2, Ps v S2 mu2 → zG own nm cc nL ret R mc ms Ph (pc + 3) L (v.toList ++ rest) S2 mu2 (cells + mc2) (slots + ms2)) : zG own nm cc nL ret R mc ms Ph pc L st S mu cells slots := by
  obtain ⟨hC, hin, hsel, hini, hcode, hpl⟩ := hv
  subst hst
  intro l p e s m args below meth c D cs ad0 N0 A h ad H locs ls ho hw hl
  have hts := h.2.2.2.2.2.1
  have hKs := h.2.2.2.2.2.2.2.2.2.1
  obtain ⟨q, hq, hqy⟩ := Option.map_eq_some_iff.mp hC
  have hrc := va_recv hKs hw.1 hq ((zws_get cs ad S mu hN).trans (by rw [zent_o hk]))
  rw [hqy] at hrc
  refine zg_after h ho hw hl (va_runV (C := y.cls) (b := ad k) (As := As.map (zr ad)) (rest := rest.map (zr ad)) ⟨h.1, h.2.1, h.2.2.2.1, h.2.2.2.2.1, hts⟩ (hM l D cs ad H.size) ⟨callB_of n hts (zgoodIn hcode) rfl rfl rfl (hts _ hini) (hts _ hm) hpl hR, hts _ hin, hts _ hsel⟩ ⟨zPc_blind D cs ad S mu H.size _, hrc, fun U hU hW => ⟨rfl, by rw [hU], by rw [hU]; exact hw.1, hw.2.1.weaken (fun _ _ _ _ => trivial), va_K.moved hW.alike hKs, zX_warm hW h.2.2.2.2.2.2.2.2.2.2⟩⟩ rfl (by rw [List.length_map]; exact hn) hl.2.1 (by simp [F0, zr]) (lv_room (by rw [zr_sum]; exact hr8)) hd hf) hS kk
theorem zg_callS {ix n : Nat} (hM : zM y cc2 nL2 ret2 d2 mc2 ms2 As S mu Ps) (hd : decode cc pc = .ok (.invokestatic ix, 3)) (hv : zct y cc2 nL2 ret2 n) (hm : Cond.methodLink own ix y ∈ zwd) (hn : As.length = n) (hst : st = As.reverse ++ rest) (hr8 : rest.length ≤ 8) (hR : zfit R nL2 d2) (hf : cells + mc2 ≤ R.cells ∧ slots + ms2 ≤ R.slots)
    (hS : (∀ v S2 mu2, Ps v S2 mu2 → S2.1 = S.1) ∨ (zok S L ∧ zok S (rest.map some))) (kk : ∀ v S2 mu2, Ps v S2 mu2 → zG own nm cc nL ret R mc ms Ph (pc + 3) L (v.toList ++ rest) S2 mu2 (cells + mc2) (slots + ms2)) : zG own nm cc nL ret R mc ms Ph pc L st S mu cells slots := by
  obtain ⟨hstat, hini, hcode, hpl⟩ := hv
  subst hst
  intro l p e s m args below meth c D cs ad0 N0 A h ad H locs ls ho hw hl
  have hts := h.2.2.2.2.2.1
  have hKs := h.2.2.2.2.2.2.2.2.2.1
  refine zg_after h ho hw hl (va_runS (As := As.map (zr ad)) (rest := rest.map (zr ad)) ⟨h.1, h.2.1, h.2.2.2.1, h.2.2.2.2.1, hts⟩ (hM l D cs ad H.size) ⟨callB_of n hts (zgoodIn hcode) rfl rfl rfl (hts _ hini) (hts _ hm) hpl hR, hts _ hstat⟩ ⟨zPc_blind D cs ad S mu H.size _, fun U hU hW => ⟨rfl, by rw [hU], by rw [hU]; exact hw.1, hw.2.1.weaken (fun _ _ _ _ => trivial), va_K.moved hW.alike hKs, zX_warm hW h.2.2.2.2.2.2.2.2.2.2⟩⟩ rfl (by rw [List.length_map]; exact hn) hl.2.1 (by simp [F0]) (lv_room (by rw [zr_sum]; exact hr8)) hd hf) hS kk
theorem zg_callSN {ix n : Nat} {host : String} (hM : zM y cc2 nL2 ret2 d2 mc2 ms2 As S mu Ps) (hd : decode cc pc = .ok (.invokestatic ix, 3)) (hv : zct y cc2 nL2 ret2 n) (hm : ∀ s : State, zX s → va_Nw (.methodLinkNest own ix y host) s) (hn : As.length = n) (hst : st = As.reverse ++ rest) (hr8 : rest.length ≤ 8) (hR : zfit R nL2 d2) (hf : cells + mc2 ≤ R.cells ∧ slots + ms2 ≤ R.slots)
    (hS : (∀ v S2 mu2, Ps v S2 mu2 → S2.1 = S.1) ∨ (zok S L ∧ zok S (rest.map some))) (kk : ∀ v S2 mu2, Ps v S2 mu2 → zG own nm cc nL ret R mc ms Ph (pc + 3) L (v.toList ++ rest) S2 mu2 (cells + mc2) (slots + ms2)) : zG own nm cc nL ret R mc ms Ph pc L st S mu cells slots := by
  obtain ⟨hstat, hini, hcode, hpl⟩ := hv
  subst hst
  intro l p e s m args below meth c D cs ad0 N0 A h ad H locs ls ho hw hl
  have hts := h.2.2.2.2.2.1
  have hKs := h.2.2.2.2.2.2.2.2.2.1
  refine zg_after h ho hw hl (va_runSN (As := As.map (zr ad)) (rest := rest.map (zr ad)) ⟨h.1, h.2.1, h.2.2.2.1, h.2.2.2.2.1, hts⟩ (hM l D cs ad H.size) ⟨va_cnB n hts (zgoodIn hcode) rfl rfl rfl (hm s h.2.2.2.2.2.2.2.2.2.2) (hts _ hini) hpl hR, hts _ hstat, trivial⟩ ⟨zPc_blind D cs ad S mu H.size _, fun U hU hW => ⟨rfl, by rw [hU], by rw [hU]; exact hw.1, hw.2.1.weaken (fun _ _ _ _ => trivial), va_K.moved hW.alike hKs, zX_warm hW h.2.2.2.2.2.2.2.2.2.2⟩⟩ rfl (by rw [List.length_map]; exact hn) hl.2.1 (by simp [F0]) (lv_room (by rw [zr_sum]; exact hr8)) hd hf) hS kk
theorem zg_callI {ix n k : Nat} (hM : zM y cc2 nL2 none d2 mc2 ms2 (.inr (k + 1) :: As) S mu Ps) (hd : decode cc pc = .ok (.invokespecial ix, 3)) (hv : zcn y cc2 nL2 n) (hm : Cond.methodLink own ix y ∈ zwd) (hn : As.length = n) (hst : st = As.reverse ++ .inr (k + 1) :: rest) (hr8 : rest.length ≤ 8) (hR : zfit R nL2 d2) (hf : cells + mc2 ≤ R.cells ∧ slots + ms2 ≤ R.slots)
    (hS : (∀ v S2 mu2, Ps v S2 mu2 → S2.1 = S.1) ∨ (zok S L ∧ zok S (rest.map some))) (kk : ∀ v S2 mu2, Ps v S2 mu2 → zG own nm cc nL ret R mc ms Ph (pc + 3) L (v.toList ++ rest) S2 mu2 (cells + mc2) (slots + ms2)) : zG own nm cc nL ret R mc ms Ph pc L st S mu cells slots := by
  obtain ⟨hname, hin, hini, hcode, hpl⟩ := hv
  subst hst
  intro l p e s m args below meth c D cs ad0 N0 A h ad H locs ls ho hw hl
  have hts := h.2.2.2.2.2.1
  have hKs := h.2.2.2.2.2.2.2.2.2.1
  refine zg_after h ho hw hl (va_runI (b := ad k) (As := As.map (zr ad)) (rest := rest.map (zr ad)) ⟨h.1, h.2.1, h.2.2.2.1, h.2.2.2.2.1, hts⟩ (hM l D cs ad H.size) ⟨callB_of n hts (zgoodIn hcode) rfl rfl rfl (hts _ hini) (hts _ hm) hpl hR, hname, hts _ hin⟩ ⟨zPc_blind D cs ad S mu H.size _, fun U hU hW => ⟨rfl, by rw [hU], by rw [hU]; exact hw.1, hw.2.1.weaken (fun _ _ _ _ => trivial), va_K.moved hW.alike hKs, zX_warm hW h.2.2.2.2.2.2.2.2.2.2⟩⟩ rfl (by rw [List.length_map]; exact hn) hl.2.1 (by simp [F0, zr]) (lv_room (by rw [zr_sum]; exact hr8)) hd hf) hS kk
theorem zg_callIN {ix n k : Nat} {host : String} (hM : zM y cc2 nL2 none d2 mc2 ms2 (.inr (k + 1) :: As) S mu Ps) (hd : decode cc pc = .ok (.invokespecial ix, 3)) (hv : zcn y cc2 nL2 n) (hm : ∀ s : State, zX s → va_Nw (.methodLinkNest own ix y host) s) (hn : As.length = n) (hst : st = As.reverse ++ .inr (k + 1) :: rest) (hr8 : rest.length ≤ 8) (hR : zfit R nL2 d2) (hf : cells + mc2 ≤ R.cells ∧ slots + ms2 ≤ R.slots)
    (hS : (∀ v S2 mu2, Ps v S2 mu2 → S2.1 = S.1) ∨ (zok S L ∧ zok S (rest.map some))) (kk : ∀ v S2 mu2, Ps v S2 mu2 → zG own nm cc nL ret R mc ms Ph (pc + 3) L (v.toList ++ rest) S2 mu2 (cells + mc2) (slots + ms2)) : zG own nm cc nL ret R mc ms Ph pc L st S mu cells slots := by
  obtain ⟨hname, hin, hini, hcode, hpl⟩ := hv
  subst hst
  intro l p e s m args below meth c D cs ad0 N0 A h ad H locs ls ho hw hl
  have hts := h.2.2.2.2.2.1
  have hKs := h.2.2.2.2.2.2.2.2.2.1
  refine zg_after h ho hw hl (va_runIN (b := ad k) (As := As.map (zr ad)) (rest := rest.map (zr ad)) ⟨h.1, h.2.1, h.2.2.2.1, h.2.2.2.2.1, hts⟩ (hM l D cs ad H.size) ⟨va_cnB n hts (zgoodIn hcode) rfl rfl rfl (hm s h.2.2.2.2.2.2.2.2.2.2) (hts _ hini) hpl hR, hname, hts _ hin⟩ ⟨zPc_blind D cs ad S mu H.size _, fun U hU hW => ⟨rfl, by rw [hU], by rw [hU]; exact hw.1, hw.2.1.weaken (fun _ _ _ _ => trivial), va_K.moved hW.alike hKs, zX_warm hW h.2.2.2.2.2.2.2.2.2.2⟩⟩ rfl (by rw [List.length_map]; exact hn) hl.2.1 (by simp [F0, zr]) (lv_room (by rw [zr_sum]; exact hr8)) hd hf) hS kk
/-- ends of methods that leave the shape -/
def zPi (S : zS) (post : Int32 → zU → Prop) : Option zV → zS → zU → Prop := fun v S2 mu2 => ∃ r : Int32, v = some (.inl r) ∧ S2 = S ∧ post r mu2
def zPv (S : zS) (post : zU → Prop) : Option zV → zS → zU → Prop := fun v S2 mu2 => v = none ∧ S2 = S ∧ post mu2
theorem zg_callVi {ix ci n k : Nat} {post : Int32 → zU → Prop} (hM : zM y cc2 nL2 ret2 d2 0 0 (.inr (k + 1) :: As) S mu (zPi S post)) (hd : decode cc pc = .ok (.invokevirtual ix, 3)) (hv : zcv y ci cc2 nL2 ret2 n) (hm : Cond.methodLink own ix y ∈ zwd) (hn : As.length = n) (hk : S.2.1 k = (0, ci)) (hN : k < S.1) (hst : st = As.reverse ++ .inr (k + 1) :: rest) (hr8 : rest.length ≤ 8) (hR : zfit R nL2 d2) (hf : cells ≤ R.cells ∧ slots ≤ R.slots)
    (kk : ∀ r mu2, post r mu2 → zG own nm cc nL ret R mc ms Ph (pc + 3) L (.inl r :: rest) S mu2 cells slots) : zG own nm cc nL ret R mc ms Ph pc L st S mu cells slots :=
  zg_callV hM hd hv hm hn hk hN hst hr8 hR hf (Or.inl (fun v S2 mu2 ⟨r, _, e, _⟩ => by rw [e])) (fun v S2 mu2 ⟨r, e1, e2, h⟩ => by subst e1; subst e2; exact kk r mu2 h)
theorem zg_callVv {ix ci n k : Nat} {post : zU → Prop} (hM : zM y cc2 nL2 ret2 d2 0 0 (.inr (k + 1) :: As) S mu (zPv S post)) (hd : decode cc pc = .ok (.invokevirtual ix, 3)) (hv : zcv y ci cc2 nL2 ret2 n) (hm : Cond.methodLink own ix y ∈ zwd) (hn : As.length = n) (hk : S.2.1 k = (0, ci)) (hN : k < S.1) (hst : st = As.reverse ++ .inr (k + 1) :: rest) (hr8 : rest.length ≤ 8) (hR : zfit R nL2 d2) (hf : cells ≤ R.cells ∧ slots ≤ R.slots)
    (kk : ∀ mu2, post mu2 → zG own nm cc nL ret R mc ms Ph (pc + 3) L rest S mu2 cells slots) : zG own nm cc nL ret R mc ms Ph pc L st S mu cells slots :=
  zg_callV hM hd hv hm hn hk hN hst hr8 hR hf (Or.inl (fun v S2 mu2 ⟨_, e, _⟩ => by rw [e])) (fun v S2 mu2 ⟨e1, e2, h⟩ => by subst e1; subst e2; exact kk mu2 h)
theorem zg_callSi {ix n : Nat} {post : Int32 → zU → Prop} (hM : zM y cc2 nL2 ret2 d2 0 0 As S mu (zPi S post)) (hd : decode cc pc = .ok (.invokestatic ix, 3)) (hv : zct y cc2 nL2 ret2 n) (hm : Cond.methodLink own ix y ∈ zwd) (hn : As.length = n) (hst : st = As.reverse ++ rest) (hr8 : rest.length ≤ 8) (hR : zfit R nL2 d2) (hf : cells ≤ R.cells ∧ slots ≤ R.slots)
    (kk : ∀ r mu2, post r mu2 → zG own nm cc nL ret R mc ms Ph (pc + 3) L (.inl r :: rest) S mu2 cells slots) : zG own nm cc nL ret R mc ms Ph pc L st S mu cells slots :=
  zg_callS hM hd hv hm hn hst hr8 hR hf (Or.inl (fun v S2 mu2 ⟨r, _, e, _⟩ => by rw [e])) (fun v S2 mu2 ⟨r, e1, e2, h⟩ => by subst e1; subst e2; exact kk r mu2 h)
theorem zg_callSNi {ix n : Nat} {host : String} {post : Int32 → zU → Prop} (hM : zM y cc2 nL2 ret2 d2 0 0 As S mu (zPi S post)) (hd : decode cc pc = .ok (.invokestatic ix, 3)) (hv : zct y cc2 nL2 ret2 n) (hm : ∀ s : State, zX s → va_Nw (.methodLinkNest own ix y host) s) (hn : As.length = n) (hst : st = As.reverse ++ rest) (hr8 : rest.length ≤ 8) (hR : zfit R nL2 d2) (hf : cells ≤ R.cells ∧ slots ≤ R.slots)
    (kk : ∀ r mu2, post r mu2 → zG own nm cc nL ret R mc ms Ph (pc + 3) L (.inl r :: rest) S mu2 cells slots) : zG own nm cc nL ret R mc ms Ph pc L st S mu cells slots :=
  zg_callSN hM hd hv hm hn hst hr8 hR hf (Or.inl (fun v S2 mu2 ⟨r, _, e, _⟩ => by rw [e])) (fun v S2 mu2 ⟨r, e1, e2, h⟩ => by subst e1; subst e2; exact kk r mu2 h)
/-- a contract's end is taken wider -/
theorem zG.imp {Ph2 : Option zV → zS → zU → Prop} (hi : ∀ v S2 mu2, Ph v S2 mu2 → Ph2 v S2 mu2) (k : zG own nm cc nL ret R mc ms Ph pc L st S mu cells slots) : zG own nm cc nL ret R mc ms Ph2 pc L st S mu cells slots := by
  intro l p e s m args below meth c D cs ad0 N0 A h ad H locs ls ho hw hl T hT X
  obtain ⟨t, a1, o, b1, b2, ⟨v, S', mu', ad', c1, c2, c3⟩, b4⟩ := k l p e s m args below meth c D cs ad0 N0 A h ad H locs ls ho hw hl T hT X
  exact ⟨t, a1, o, b1, b2, ⟨v, S', mu', ad', c1, hi _ _ _ c2, c3⟩, b4⟩
theorem zM.imp {d : Nat} {as : List zV} {Ph2 : Option zV → zS → zU → Prop} (hi : ∀ v S2 mu2, Ph v S2 mu2 → Ph2 v S2 mu2) (k : zM y cc2 nL2 ret2 d mc ms as S mu Ph) : zM y cc2 nL2 ret2 d mc ms as S mu Ph2 := by
  intro l D cs ad sz p e ha hc hk s m args below hf hfit hheap happ
  obtain ⟨n, o, h1, h2, h3, ⟨v, S', mu', ad', c1, c2, c3⟩, h4⟩ := k l D cs ad sz p e ha hc hk s m args below hf hfit hheap happ
  exact ⟨n, o, h1, h2, h3, ⟨v, S', mu', ad', c1, hi _ _ _ c2, c3⟩, h4⟩
end ZC
end
section
section ZN
variable {own nm : String} {cc : ByteArray} {nL : Nat} {ret : Option FieldType} {R : Room} {mc ms : Nat} {Ph : Option zV → zS → zU → Prop} {pc : Nat} {L : List (Option zV)} {st : List zV} {S : zS} {mu : zU} {cells slots : Nat}
theorem zg_iaddN {a b : Nat} (hd : decode cc pc = .ok (.iadd, 1)) (k : zG own nm cc nL ret R mc ms Ph (pc + 1) L (.inl (nI (a + b)) :: st) S mu cells slots) : zG own nm cc nL ret R mc ms Ph pc L (.inl (nI b) :: .inl (nI a) :: st) S mu cells slots := zg_iadd hd (zg_val (nI_add a b) k)
theorem zg_imulN {a b : Nat} (hd : decode cc pc = .ok (.imul, 1)) (k : zG own nm cc nL ret R mc ms Ph (pc + 1) L (.inl (nI (a * b)) :: st) S mu cells slots) : zG own nm cc nL ret R mc ms Ph pc L (.inl (nI b) :: .inl (nI a) :: st) S mu cells slots := zg_imul hd (zg_val (pk_mul a b) k)
theorem zg_isubN {a b : Nat} (hd : decode cc pc = .ok (.isub, 1)) (h : b ≤ a) (k : zG own nm cc nL ret R mc ms Ph (pc + 1) L (.inl (nI (a - b)) :: st) S mu cells slots) : zG own nm cc nL ret R mc ms Ph pc L (.inl (nI b) :: .inl (nI a) :: st) S mu cells slots := zg_isub hd (zg_val (pk_sub h) k)
theorem zg_iremN {a b : Nat} (hd : decode cc pc = .ok (.irem, 1)) (h0 : 0 < b) (hb : b < 2 ^ 31) (ha : a < 2 ^ 31) (k : zG own nm cc nL ret R mc ms Ph (pc + 1) L (.inl (nI (a % b)) :: st) S mu cells slots) : zG own nm cc nL ret R mc ms Ph pc L (.inl (nI b) :: .inl (nI a) :: st) S mu cells slots := zg_irem hd (nI_ne0 h0 hb) (zg_val (pk_rem ha h0 hb) k)
theorem zg_iinc1 {i a : Nat} {L2 : List (Option zV)} (hd : decode cc pc = .ok (.iinc i 1, 3)) (hn : i < nL) (hx : L[i]? = some (some (.inl (nI a)))) (hL : L.set i (some (.inl (nI (a + 1)))) = L2) (k : zG own nm cc nL ret R mc ms Ph (pc + 3) L2 st S mu cells slots) : zG own nm cc nL ret R mc ms Ph pc L st S mu cells slots := zg_iinc hd hn hx (nI_1 a) hL k
theorem zg_iincm {i a : Nat} {L2 : List (Option zV)} (hd : decode cc pc = .ok (.iinc i (-1), 3)) (hn : i < nL) (hx : L[i]? = some (some (.inl (nI a)))) (h1 : 1 ≤ a) (hL : L.set i (some (.inl (nI (a - 1)))) = L2) (k : zG own nm cc nL ret R mc ms Ph (pc + 3) L2 st S mu cells slots) : zG own nm cc nL ret R mc ms Ph pc L st S mu cells slots := zg_iinc hd hn hx (by obtain ⟨b, rfl⟩ := Nat.exists_eq_add_of_le h1; rw [Nat.add_comm 1 b, Nat.add_sub_cancel]; exact pk_m1 b) hL k
theorem zg_icmpN_eq {a b : Nat} {off : Int} {tgt : Nat} (hd : decode cc pc = .ok (.if_icmp .eq off, 3)) (ht : (pc : Int) + off = (tgt : Int)) (ha : a < 2 ^ 31) (hb : b < 2 ^ 31) (kt : a = b → zG own nm cc nL ret R mc ms Ph tgt L st S mu cells slots) (kf : ¬ a = b → zG own nm cc nL ret R mc ms Ph (pc + 3) L st S mu cells slots) : zG own nm cc nL ret R mc ms Ph pc L (.inl (nI b) :: .inl (nI a) :: st) S mu cells slots := zg_icmp_eq hd ht (fun q => kt ((nI_eq ha hb).mp q)) (fun q => kf (fun z => q ((nI_eq ha hb).mpr z)))
theorem zg_icmpN_ne {a b : Nat} {off : Int} {tgt : Nat} (hd : decode cc pc = .ok (.if_icmp .ne off, 3)) (ht : (pc : Int) + off = (tgt : Int)) (ha : a < 2 ^ 31) (hb : b < 2 ^ 31) (kt : a ≠ b → zG own nm cc nL ret R mc ms Ph tgt L st S mu cells slots) (kf : a = b → zG own nm cc nL ret R mc ms Ph (pc + 3) L st S mu cells slots) : zG own nm cc nL ret R mc ms Ph pc L (.inl (nI b) :: .inl (nI a) :: st) S mu cells slots := zg_icmp_ne hd ht (fun q => kt (fun z => q ((nI_eq ha hb).mpr z))) (fun q => kf ((nI_eq ha hb).mp q))
theorem zg_icmpN_lt {a b : Nat} {off : Int} {tgt : Nat} (hd : decode cc pc = .ok (.if_icmp .lt off, 3)) (ht : (pc : Int) + off = (tgt : Int)) (ha : a < 2 ^ 31) (hb : b < 2 ^ 31) (kt : a < b → zG own nm cc nL ret R mc ms Ph tgt L st S mu cells slots) (kf : ¬ a < b → zG own nm cc nL ret R mc ms Ph (pc + 3) L st S mu cells slots) : zG own nm cc nL ret R mc ms Ph pc L (.inl (nI b) :: .inl (nI a) :: st) S mu cells slots := zg_icmp_lt hd ht (fun q => kt ((nI_ltI ha hb).mp q)) (fun q => kf (fun z => q ((nI_ltI ha hb).mpr z)))
theorem zg_icmpN_ge {a b : Nat} {off : Int} {tgt : Nat} (hd : decode cc pc = .ok (.if_icmp .ge off, 3)) (ht : (pc : Int) + off = (tgt : Int)) (ha : a < 2 ^ 31) (hb : b < 2 ^ 31) (kt : b ≤ a → zG own nm cc nL ret R mc ms Ph tgt L st S mu cells slots) (kf : ¬ b ≤ a → zG own nm cc nL ret R mc ms Ph (pc + 3) L st S mu cells slots) : zG own nm cc nL ret R mc ms Ph pc L (.inl (nI b) :: .inl (nI a) :: st) S mu cells slots := zg_icmp_ge hd ht (fun q => kt ((nI_leI hb ha).mp q)) (fun q => kf (fun z => q ((nI_leI hb ha).mpr z)))
theorem zg_icmpN_gt {a b : Nat} {off : Int} {tgt : Nat} (hd : decode cc pc = .ok (.if_icmp .gt off, 3)) (ht : (pc : Int) + off = (tgt : Int)) (ha : a < 2 ^ 31) (hb : b < 2 ^ 31) (kt : b < a → zG own nm cc nL ret R mc ms Ph tgt L st S mu cells slots) (kf : ¬ b < a → zG own nm cc nL ret R mc ms Ph (pc + 3) L st S mu cells slots) : zG own nm cc nL ret R mc ms Ph pc L (.inl (nI b) :: .inl (nI a) :: st) S mu cells slots := zg_icmp_gt hd ht (fun q => kt ((nI_ltI hb ha).mp q)) (fun q => kf (fun z => q ((nI_ltI hb ha).mpr z)))
theorem zg_icmpN_le {a b : Nat} {off : Int} {tgt : Nat} (hd : decode cc pc = .ok (.if_icmp .le off, 3)) (ht : (pc : Int) + off = (tgt : Int)) (ha : a < 2 ^ 31) (hb : b < 2 ^ 31) (kt : a ≤ b → zG own nm cc nL ret R mc ms Ph tgt L st S mu cells slots) (kf : ¬ a ≤ b → zG own nm cc nL ret R mc ms Ph (pc + 3) L st S mu cells slots) : zG own nm cc nL ret R mc ms Ph pc L (.inl (nI b) :: .inl (nI a) :: st) S mu cells slots := zg_icmp_le hd ht (fun q => kt ((nI_leI ha hb).mp q)) (fun q => kf (fun z => q ((nI_leI ha hb).mpr z)))
theorem zz31 : (0 : Nat) < 2 ^ 31 := by decide
theorem zg_ifN_eq {a : Nat} {off : Int} {tgt : Nat} (hd : decode cc pc = .ok (.ifCond .eq off, 3)) (ht : (pc : Int) + off = (tgt : Int)) (ha : a < 2 ^ 31) (kt : a = 0 → zG own nm cc nL ret R mc ms Ph tgt L st S mu cells slots) (kf : ¬ a = 0 → zG own nm cc nL ret R mc ms Ph (pc + 3) L st S mu cells slots) : zG own nm cc nL ret R mc ms Ph pc L (.inl (nI a) :: st) S mu cells slots := zg_if_eq hd ht (fun q => kt ((nI_eq ha zz31).mp q)) (fun q => kf (fun z => q ((nI_eq ha zz31).mpr z)))
theorem zg_ifN_ne {a : Nat} {off : Int} {tgt : Nat} (hd : decode cc pc = .ok (.ifCond .ne off, 3)) (ht : (pc : Int) + off = (tgt : Int)) (ha : a < 2 ^ 31) (kt : a ≠ 0 → zG own nm cc nL ret R mc ms Ph tgt L st S mu cells slots) (kf : a = 0 → zG own nm cc nL ret R mc ms Ph (pc + 3) L st S mu cells slots) : zG own nm cc nL ret R mc ms Ph pc L (.inl (nI a) :: st) S mu cells slots := zg_if_ne hd ht (fun q => kt (fun z => q ((nI_eq ha zz31).mpr z))) (fun q => kf ((nI_eq ha zz31).mp q))
theorem zg_ifN_lt {a : Nat} {off : Int} {tgt : Nat} (hd : decode cc pc = .ok (.ifCond .lt off, 3)) (ht : (pc : Int) + off = (tgt : Int)) (ha : a < 2 ^ 31) (kt : a < 0 → zG own nm cc nL ret R mc ms Ph tgt L st S mu cells slots) (kf : ¬ a < 0 → zG own nm cc nL ret R mc ms Ph (pc + 3) L st S mu cells slots) : zG own nm cc nL ret R mc ms Ph pc L (.inl (nI a) :: st) S mu cells slots := zg_if_lt hd ht (fun q => kt ((nI_ltI ha zz31).mp q)) (fun q => kf (fun z => q ((nI_ltI ha zz31).mpr z)))
theorem zg_ifN_ge {a : Nat} {off : Int} {tgt : Nat} (hd : decode cc pc = .ok (.ifCond .ge off, 3)) (ht : (pc : Int) + off = (tgt : Int)) (ha : a < 2 ^ 31) (kt : 0 ≤ a → zG own nm cc nL ret R mc ms Ph tgt L st S mu cells slots) (kf : ¬ 0 ≤ a → zG own nm cc nL ret R mc ms Ph (pc + 3) L st S mu cells slots) : zG own nm cc nL ret R mc ms Ph pc L (.inl (nI a) :: st) S mu cells slots := zg_if_ge hd ht (fun q => kt ((nI_leI zz31 ha).mp q)) (fun q => kf (fun z => q ((nI_leI zz31 ha).mpr z)))
theorem zg_ifN_gt {a : Nat} {off : Int} {tgt : Nat} (hd : decode cc pc = .ok (.ifCond .gt off, 3)) (ht : (pc : Int) + off = (tgt : Int)) (ha : a < 2 ^ 31) (kt : 0 < a → zG own nm cc nL ret R mc ms Ph tgt L st S mu cells slots) (kf : ¬ 0 < a → zG own nm cc nL ret R mc ms Ph (pc + 3) L st S mu cells slots) : zG own nm cc nL ret R mc ms Ph pc L (.inl (nI a) :: st) S mu cells slots := zg_if_gt hd ht (fun q => kt ((nI_ltI zz31 ha).mp q)) (fun q => kf (fun z => q ((nI_ltI zz31 ha).mpr z)))
theorem zg_ifN_le {a : Nat} {off : Int} {tgt : Nat} (hd : decode cc pc = .ok (.ifCond .le off, 3)) (ht : (pc : Int) + off = (tgt : Int)) (ha : a < 2 ^ 31) (kt : a ≤ 0 → zG own nm cc nL ret R mc ms Ph tgt L st S mu cells slots) (kf : ¬ a ≤ 0 → zG own nm cc nL ret R mc ms Ph (pc + 3) L st S mu cells slots) : zG own nm cc nL ret R mc ms Ph pc L (.inl (nI a) :: st) S mu cells slots := zg_if_le hd ht (fun q => kt ((nI_leI ha zz31).mp q)) (fun q => kf (fun z => q ((nI_leI ha zz31).mpr z)))
end ZN
theorem cnX2_init : zcn yX2_init cX2_init 2 0 := ⟨rfl, knX2_init, kiX2, kcX2_init, by decide +kernel⟩
theorem cnX1_init : zcn yX1_init cX1_init 2 0 := ⟨rfl, knX1_init, kiX1, kcX1_init, by decide +kernel⟩
theorem cnX0_init : zcn yX0_init cX0_init 1 0 := ⟨rfl, knX0_init, kiX0, kcX0_init, by decide +kernel⟩
theorem cvX2_append : zcv yX2_append 2 cX2_append 2 (some .int) 1 := ⟨rfl, knX2_append, ksX2_append, kiX2, kcX2_append, by decide +kernel⟩
theorem cvX2_clearText : zcv yX2_clearText 2 cX2_clearText 2 (some .int) 0 := ⟨rfl, knX2_clearText, ksX2_clearText, kiX2, kcX2_clearText, by decide +kernel⟩
theorem cvX2_load : zcv yX2_load 2 cX2_load 2 (some .int) 0 := ⟨rfl, knX2_load, ksX2_load, kiX2, kcX2_load, by decide +kernel⟩
theorem cvX2_errorPosition : zcv yX2_errorPosition 2 cX2_errorPosition 5 (some .int) 0 := ⟨rfl, knX2_errorPosition, ksX2_errorPosition, kiX2, kcX2_errorPosition, by decide +kernel⟩
theorem ctX2_isCode : zct yX2_isCode cX2_isCode 1 (some .boolean) 1 := ⟨ktX2_isCode, kiX2, kcX2_isCode, by decide +kernel⟩
theorem cvX2_keepForUndo : zcv yX2_keepForUndo 2 cX2_keepForUndo 3 none 0 := ⟨rfl, knX2_keepForUndo, ksX2_keepForUndo, kiX2, kcX2_keepForUndo, by decide +kernel⟩
theorem cvX1_copyFrom : zcv yX1_copyFrom 1 cX1_copyFrom 3 none 1 := ⟨rfl, knX1_copyFrom, ksX1_copyFrom, kiX1, kcX1_copyFrom, by decide +kernel⟩
theorem cvX0_copyFrom : zcv yX0_copyFrom 0 cX0_copyFrom 2 none 1 := ⟨rfl, knX0_copyFrom, ksX0_copyFrom, kiX0, kcX0_copyFrom, by decide +kernel⟩
theorem cvX2_readProgram : zcv yX2_readProgram 2 cX2_readProgram 5 none 0 := ⟨rfl, knX2_readProgram, ksX2_readProgram, kiX2, kcX2_readProgram, by decide +kernel⟩
theorem ctX2_isCell : zct yX2_isCell cX2_isCell 2 (some .boolean) 2 := ⟨ktX2_isCell, kiX2, kcX2_isCell, by decide +kernel⟩
theorem cvX1_beginRun : zcv yX1_beginRun 1 cX1_beginRun 1 none 0 := ⟨rfl, knX1_beginRun, ksX1_beginRun, kiX1, kcX1_beginRun, by decide +kernel⟩
theorem cvX0_reset : zcv yX0_reset 0 cX0_reset 1 none 0 := ⟨rfl, knX0_reset, ksX0_reset, kiX0, kcX0_reset, by decide +kernel⟩
theorem cvX1_countFilledCells : zcv yX1_countFilledCells 1 cX1_countFilledCells 3 (some .int) 0 := ⟨rfl, knX1_countFilledCells, ksX1_countFilledCells, kiX1, kcX1_countFilledCells, by decide +kernel⟩
theorem cvX2_rewind : zcv yX2_rewind 2 cX2_rewind 2 (some .int) 0 := ⟨rfl, knX2_rewind, ksX2_rewind, kiX2, kcX2_rewind, by decide +kernel⟩
theorem cvX2_feed : zcv yX2_feed 2 cX2_feed 2 (some .int) 1 := ⟨rfl, knX2_feed, ksX2_feed, kiX2, kcX2_feed, by decide +kernel⟩
theorem cvX1_addInput : zcv yX1_addInput 1 cX1_addInput 2 none 1 := ⟨rfl, knX1_addInput, ksX1_addInput, kiX1, kcX1_addInput, by decide +kernel⟩
theorem cvX2_poke : zcv yX2_poke 2 cX2_poke 6 (some .int) 3 := ⟨rfl, knX2_poke, ksX2_poke, kiX2, kcX2_poke, by decide +kernel⟩
theorem cvX2_tick : zcv yX2_tick 2 cX2_tick 2 (some .int) 1 := ⟨rfl, knX2_tick, ksX2_tick, kiX2, kcX2_tick, by decide +kernel⟩
theorem cvX2_advance : zcv yX2_advance 2 cX2_advance 4 (some .int) 2 := ⟨rfl, knX2_advance, ksX2_advance, kiX2, kcX2_advance, by decide +kernel⟩
theorem ctX2_isTickLimit : zct yX2_isTickLimit cX2_isTickLimit 1 (some .boolean) 1 := ⟨ktX2_isTickLimit, kiX2, kcX2_isTickLimit, by decide +kernel⟩
theorem cvX1_isHalted : zcv yX1_isHalted 1 cX1_isHalted 2 (some .boolean) 0 := ⟨rfl, knX1_isHalted, ksX1_isHalted, kiX1, kcX1_isHalted, by decide +kernel⟩
theorem cvX1_performTick : zcv yX1_performTick 1 cX1_performTick 3 none 0 := ⟨rfl, knX1_performTick, ksX1_performTick, kiX1, kcX1_performTick, by decide +kernel⟩
theorem cvX1_takeTurn : zcv yX1_takeTurn 1 cX1_takeTurn 4 none 1 := ⟨rfl, knX1_takeTurn, ksX1_takeTurn, kiX1, kcX1_takeTurn, by decide +kernel⟩
theorem cvX0_cell : zcv yX0_cell 0 cX0_cell 1 (some .int) 0 := ⟨rfl, knX0_cell, ksX0_cell, kiX0, kcX0_cell, by decide +kernel⟩
theorem cvX1_fetchCell : zcv yX1_fetchCell 1 cX1_fetchCell 4 none 1 := ⟨rfl, knX1_fetchCell, ksX1_fetchCell, kiX1, kcX1_fetchCell, by decide +kernel⟩
theorem cvX0_pop : zcv yX0_pop 0 cX0_pop 2 (some .int) 0 := ⟨rfl, knX0_pop, ksX0_pop, kiX0, kcX0_pop, by decide +kernel⟩
theorem ctX1_wrappedCell : zct yX1_wrappedCell cX1_wrappedCell 2 (some .int) 2 := ⟨ktX1_wrappedCell, kiX1, kcX1_wrappedCell, by decide +kernel⟩
theorem ctJ9_floorMod_7cf53 : zct yJ9_floorMod_7cf53 cJ9_floorMod_7cf53 3 (some .int) 2 := ⟨ktJ9_floorMod_7cf53, kiJ9, kcJ9_floorMod_7cf53, by decide +kernel⟩
theorem cvX0_push : zcv yX0_push 0 cX0_push 2 none 1 := ⟨rfl, knX0_push, ksX0_push, kiX0, kcX0_push, by decide +kernel⟩
theorem cvX1_storeCell : zcv yX1_storeCell 1 cX1_storeCell 5 none 1 := ⟨rfl, knX1_storeCell, ksX1_storeCell, kiX1, kcX1_storeCell, by decide +kernel⟩
theorem cvX1_addOutput : zcv yX1_addOutput 1 cX1_addOutput 2 none 1 := ⟨rfl, knX1_addOutput, ksX1_addOutput, kiX1, kcX1_addOutput, by decide +kernel⟩
theorem cvX1_takeInput : zcv yX1_takeInput 1 cX1_takeInput 3 none 1 := ⟨rfl, knX1_takeInput, ksX1_takeInput, kiX1, kcX1_takeInput, by decide +kernel⟩
theorem cvX0_turn : zcv yX0_turn 0 cX0_turn 2 none 1 := ⟨rfl, knX0_turn, ksX0_turn, kiX0, kcX0_turn, by decide +kernel⟩
theorem cvX1_split : zcv yX1_split 1 cX1_split 5 none 1 := ⟨rfl, knX1_split, ksX1_split, kiX1, kcX1_split, by decide +kernel⟩
theorem cvX0_step : zcv yX0_step 0 cX0_step 1 none 0 := ⟨rfl, knX0_step, ksX0_step, kiX0, kcX0_step, by decide +kernel⟩
theorem cvX0_perform : zcv yX0_perform 0 cX0_perform 7 none 1 := ⟨rfl, knX0_perform, ksX0_perform, kiX0, kcX0_perform, by decide +kernel⟩
theorem ctX0_combine : zct yX0_combine cX0_combine 3 (some .int) 3 := ⟨ktX0_combine, kiX0, kcX0_combine, by decide +kernel⟩
theorem cvX0_openStack : zcv yX0_openStack 0 cX0_openStack 3 none 1 := ⟨rfl, knX0_openStack, ksX0_openStack, kiX0, kcX0_openStack, by decide +kernel⟩
theorem cvX0_movable : zcv yX0_movable 0 cX0_movable 3 (some .int) 1 := ⟨rfl, knX0_movable, ksX0_movable, kiX0, kcX0_movable, by decide +kernel⟩
theorem cvX0_closeStack : zcv yX0_closeStack 0 cX0_closeStack 4 none 0 := ⟨rfl, knX0_closeStack, ksX0_closeStack, kiX0, kcX0_closeStack, by decide +kernel⟩
theorem ctJ9_min_7cf53 : zct yJ9_min_7cf53 cJ9_min_7cf53 2 (some .int) 2 := ⟨ktJ9_min_7cf53, kiJ9, kcJ9_min_7cf53, by decide +kernel⟩
theorem ctJ9_max_7cf53 : zct yJ9_max_7cf53 cJ9_max_7cf53 2 (some .int) 2 := ⟨ktJ9_max_7cf53, kiJ9, kcJ9_max_7cf53, by decide +kernel⟩
theorem cvX0_steer : zcv yX0_steer 0 cX0_steer 2 none 1 := ⟨rfl, knX0_steer, ksX0_steer, kiX0, kcX0_steer, by decide +kernel⟩
theorem cvX2_atBreakpoint : zcv yX2_atBreakpoint 2 cX2_atBreakpoint 3 (some .boolean) 0 := ⟨rfl, knX2_atBreakpoint, ksX2_atBreakpoint, kiX2, kcX2_atBreakpoint, by decide +kernel⟩
theorem cvX2_run : zcv yX2_run 2 cX2_run 2 (some .int) 1 := ⟨rfl, knX2_run, ksX2_run, kiX2, kcX2_run, by decide +kernel⟩
theorem cvX2_setBreakpoint : zcv yX2_setBreakpoint 2 cX2_setBreakpoint 6 (some .int) 3 := ⟨rfl, knX2_setBreakpoint, ksX2_setBreakpoint, kiX2, kcX2_setBreakpoint, by decide +kernel⟩
theorem cvX2_undo : zcv yX2_undo 2 cX2_undo 1 (some .int) 0 := ⟨rfl, knX2_undo, ksX2_undo, kiX2, kcX2_undo, by decide +kernel⟩
theorem cvX2_ticksToHalt : zcv yX2_ticksToHalt 2 cX2_ticksToHalt 3 (some .int) 1 := ⟨rfl, knX2_ticksToHalt, ksX2_ticksToHalt, kiX2, kcX2_ticksToHalt, by decide +kernel⟩
theorem cvX2_cycleStart : zcv yX2_cycleStart 2 cX2_cycleStart 3 (some .int) 1 := ⟨rfl, knX2_cycleStart, ksX2_cycleStart, kiX2, kcX2_cycleStart, by decide +kernel⟩
theorem cvX2_findPeriod : zcv yX2_findPeriod 2 cX2_findPeriod 3 (some .int) 1 := ⟨rfl, knX2_findPeriod, ksX2_findPeriod, kiX2, kcX2_findPeriod, by decide +kernel⟩
theorem cvX1_hasConfigurationOf : zcv yX1_hasConfigurationOf 1 cX1_hasConfigurationOf 3 (some .boolean) 1 := ⟨rfl, knX1_hasConfigurationOf, ksX1_hasConfigurationOf, kiX1, kcX1_hasConfigurationOf, by decide +kernel⟩
theorem cvX0_isLike : zcv yX0_isLike 0 cX0_isLike 3 (some .boolean) 1 := ⟨rfl, knX0_isLike, ksX0_isLike, kiX0, kcX0_isLike, by decide +kernel⟩
theorem cvX2_findCycleEntry : zcv yX2_findCycleEntry 2 cX2_findCycleEntry 4 (some .int) 2 := ⟨rfl, knX2_findCycleEntry, ksX2_findCycleEntry, kiX2, kcX2_findCycleEntry, by decide +kernel⟩
theorem cvX2_cycleLength : zcv yX2_cycleLength 2 cX2_cycleLength 3 (some .int) 1 := ⟨rfl, knX2_cycleLength, ksX2_cycleLength, kiX2, kcX2_cycleLength, by decide +kernel⟩
theorem cvX2_cellAt : zcv yX2_cellAt 2 cX2_cellAt 3 (some .int) 2 := ⟨rfl, knX2_cellAt, ksX2_cellAt, kiX2, kcX2_cellAt, by decide +kernel⟩
theorem cvX2_changedCells : zcv yX2_changedCells 2 cX2_changedCells 3 (some .int) 0 := ⟨rfl, knX2_changedCells, ksX2_changedCells, kiX2, kcX2_changedCells, by decide +kernel⟩
theorem cvX2_pointerCount : zcv yX2_pointerCount 2 cX2_pointerCount 1 (some .int) 0 := ⟨rfl, knX2_pointerCount, ksX2_pointerCount, kiX2, kcX2_pointerCount, by decide +kernel⟩
theorem cvX2_pointerAt : zcv yX2_pointerAt 2 cX2_pointerAt 2 (some .int) 1 := ⟨rfl, knX2_pointerAt, ksX2_pointerAt, kiX2, kcX2_pointerAt, by decide +kernel⟩
theorem cvX2_isPointer : zcv yX2_isPointer 2 cX2_isPointer 2 (some .boolean) 1 := ⟨rfl, knX2_isPointer, ksX2_isPointer, kiX2, kcX2_isPointer, by decide +kernel⟩
theorem cvX2_position : zcv yX2_position 2 cX2_position 2 (some .int) 1 := ⟨rfl, knX2_position, ksX2_position, kiX2, kcX2_position, by decide +kernel⟩
theorem cvX2_direction : zcv yX2_direction 2 cX2_direction 2 (some .int) 1 := ⟨rfl, knX2_direction, ksX2_direction, kiX2, kcX2_direction, by decide +kernel⟩
theorem cvX2_status : zcv yX2_status 2 cX2_status 2 (some .int) 1 := ⟨rfl, knX2_status, ksX2_status, kiX2, kcX2_status, by decide +kernel⟩
theorem cvX2_sleep : zcv yX2_sleep 2 cX2_sleep 2 (some .int) 1 := ⟨rfl, knX2_sleep, ksX2_sleep, kiX2, kcX2_sleep, by decide +kernel⟩
theorem cvX2_stackCount : zcv yX2_stackCount 2 cX2_stackCount 2 (some .int) 1 := ⟨rfl, knX2_stackCount, ksX2_stackCount, kiX2, kcX2_stackCount, by decide +kernel⟩
theorem cvX2_stackSize : zcv yX2_stackSize 2 cX2_stackSize 3 (some .int) 2 := ⟨rfl, knX2_stackSize, ksX2_stackSize, kiX2, kcX2_stackSize, by decide +kernel⟩
theorem cvX2_isStack : zcv yX2_isStack 2 cX2_isStack 3 (some .boolean) 2 := ⟨rfl, knX2_isStack, ksX2_isStack, kiX2, kcX2_isStack, by decide +kernel⟩
theorem cvX2_valueAt : zcv yX2_valueAt 2 cX2_valueAt 5 (some .int) 3 := ⟨rfl, knX2_valueAt, ksX2_valueAt, kiX2, kcX2_valueAt, by decide +kernel⟩
theorem cvX0_stackBegin : zcv yX0_stackBegin 0 cX0_stackBegin 4 (some .int) 1 := ⟨rfl, knX0_stackBegin, ksX0_stackBegin, kiX0, kcX0_stackBegin, by decide +kernel⟩
theorem cvX2_inputSize : zcv yX2_inputSize 2 cX2_inputSize 1 (some .int) 0 := ⟨rfl, knX2_inputSize, ksX2_inputSize, kiX2, kcX2_inputSize, by decide +kernel⟩
theorem cvX2_outputSize : zcv yX2_outputSize 2 cX2_outputSize 1 (some .int) 0 := ⟨rfl, knX2_outputSize, ksX2_outputSize, kiX2, kcX2_outputSize, by decide +kernel⟩
theorem cvX2_outputAt : zcv yX2_outputAt 2 cX2_outputAt 2 (some .int) 1 := ⟨rfl, knX2_outputAt, ksX2_outputAt, kiX2, kcX2_outputAt, by decide +kernel⟩
theorem cvX2_outputTotal : zcv yX2_outputTotal 2 cX2_outputTotal 1 (some .int) 0 := ⟨rfl, knX2_outputTotal, ksX2_outputTotal, kiX2, kcX2_outputTotal, by decide +kernel⟩
theorem cvX2_tickCount : zcv yX2_tickCount 2 cX2_tickCount 1 (some .int) 0 := ⟨rfl, knX2_tickCount, ksX2_tickCount, kiX2, kcX2_tickCount, by decide +kernel⟩
theorem cvX2_save : zcv yX2_save 2 cX2_save 2 (some .int) 1 := ⟨rfl, knX2_save, ksX2_save, kiX2, kcX2_save, by decide +kernel⟩
theorem cvX2_restore : zcv yX2_restore 2 cX2_restore 2 (some .int) 1 := ⟨rfl, knX2_restore, ksX2_restore, kiX2, kcX2_restore, by decide +kernel⟩
theorem cvX2_undoDepth : zcv yX2_undoDepth 2 cX2_undoDepth 1 (some .int) 0 := ⟨rfl, knX2_undoDepth, ksX2_undoDepth, kiX2, kcX2_undoDepth, by decide +kernel⟩
theorem cnX3_init : zcn yX3_init cX3_init 2 0 := ⟨rfl, knX3_init, kiX3, kcX3_init, by decide +kernel⟩
theorem cvX3_begin : zcv yX3_begin 3 cX3_begin 2 none 0 := ⟨rfl, knX3_begin, ksX3_begin, kiX3, kcX3_begin, by decide +kernel⟩
theorem cvX3_undo : zcv yX3_undo 3 cX3_undo 2 (some .int) 0 := ⟨rfl, knX3_undo, ksX3_undo, kiX3, kcX3_undo, by decide +kernel⟩
theorem cvX3_append : zcv yX3_append 3 cX3_append 2 (some .int) 1 := ⟨rfl, knX3_append, ksX3_append, kiX3, kcX3_append, by decide +kernel⟩
theorem ctX3_in : zct yX3_in cX3_in 3 (some .boolean) 3 := ⟨ktX3_in, kiX3, kcX3_in, by decide +kernel⟩
theorem cvX3_clearText : zcv yX3_clearText 3 cX3_clearText 2 (some .int) 0 := ⟨rfl, knX3_clearText, ksX3_clearText, kiX3, kcX3_clearText, by decide +kernel⟩
theorem cvX3_load : zcv yX3_load 3 cX3_load 6 (some .int) 0 := ⟨rfl, knX3_load, ksX3_load, kiX3, kcX3_load, by decide +kernel⟩
theorem cvX3_errorPosition : zcv yX3_errorPosition 3 cX3_errorPosition 6 (some .int) 0 := ⟨rfl, knX3_errorPosition, ksX3_errorPosition, kiX3, kcX3_errorPosition, by decide +kernel⟩
theorem cvX3_remember : zcv yX3_remember 3 cX3_remember 2 none 0 := ⟨rfl, knX3_remember, ksX3_remember, kiX3, kcX3_remember, by decide +kernel⟩
theorem cvX3_saveBefore : zcv yX3_saveBefore 3 cX3_saveBefore 2 none 0 := ⟨rfl, knX3_saveBefore, ksX3_saveBefore, kiX3, kcX3_saveBefore, by decide +kernel⟩
theorem cvX3_rewind : zcv yX3_rewind 3 cX3_rewind 2 (some .int) 0 := ⟨rfl, knX3_rewind, ksX3_rewind, kiX3, kcX3_rewind, by decide +kernel⟩
theorem cvX3_feed : zcv yX3_feed 3 cX3_feed 2 (some .int) 1 := ⟨rfl, knX3_feed, ksX3_feed, kiX3, kcX3_feed, by decide +kernel⟩
theorem cvX3_poke : zcv yX3_poke 3 cX3_poke 6 (some .int) 3 := ⟨rfl, knX3_poke, ksX3_poke, kiX3, kcX3_poke, by decide +kernel⟩
theorem ctX3_isCell : zct yX3_isCell cX3_isCell 2 (some .boolean) 2 := ⟨ktX3_isCell, kiX3, kcX3_isCell, by decide +kernel⟩
theorem cvX3_tick : zcv yX3_tick 3 cX3_tick 2 (some .int) 1 := ⟨rfl, knX3_tick, ksX3_tick, kiX3, kcX3_tick, by decide +kernel⟩
theorem cvX3_perform : zcv yX3_perform 3 cX3_perform 5 (some .int) 2 := ⟨rfl, knX3_perform, ksX3_perform, kiX3, kcX3_perform, by decide +kernel⟩
theorem cvX3_isHalted : zcv yX3_isHalted 3 cX3_isHalted 3 (some .boolean) 0 := ⟨rfl, knX3_isHalted, ksX3_isHalted, kiX3, kcX3_isHalted, by decide +kernel⟩
theorem cvX3_of : zcv yX3_of 3 cX3_of 3 (some .int) 2 := ⟨rfl, knX3_of, ksX3_of, kiX3, kcX3_of, by decide +kernel⟩
theorem cvX3_step : zcv yX3_step 3 cX3_step 3 none 0 := ⟨rfl, knX3_step, ksX3_step, kiX3, kcX3_step, by decide +kernel⟩
theorem cvX3_takeTurn : zcv yX3_takeTurn 3 cX3_takeTurn 2 none 1 := ⟨rfl, knX3_takeTurn, ksX3_takeTurn, kiX3, kcX3_takeTurn, by decide +kernel⟩
theorem cvX3_put : zcv yX3_put 3 cX3_put 4 none 3 := ⟨rfl, knX3_put, ksX3_put, kiX3, kcX3_put, by decide +kernel⟩
theorem cvX3_execute : zcv yX3_execute 3 cX3_execute 5 none 2 := ⟨rfl, knX3_execute, ksX3_execute, kiX3, kcX3_execute, by decide +kernel⟩
theorem cvX3_push : zcv yX3_push 3 cX3_push 4 none 2 := ⟨rfl, knX3_push, ksX3_push, kiX3, kcX3_push, by decide +kernel⟩
theorem cvX3_heldBy : zcv yX3_heldBy 3 cX3_heldBy 2 (some .int) 1 := ⟨rfl, knX3_heldBy, ksX3_heldBy, kiX3, kcX3_heldBy, by decide +kernel⟩
theorem cvX3_current : zcv yX3_current 3 cX3_current 2 (some .int) 1 := ⟨rfl, knX3_current, ksX3_current, kiX3, kcX3_current, by decide +kernel⟩
theorem cvX3_pop : zcv yX3_pop 3 cX3_pop 5 (some .int) 1 := ⟨rfl, knX3_pop, ksX3_pop, kiX3, kcX3_pop, by decide +kernel⟩
theorem ctX3_operate : zct yX3_operate cX3_operate 3 (some .int) 3 := ⟨ktX3_operate, kiX3, kcX3_operate, by decide +kernel⟩
theorem cvX3_duplicate : zcv yX3_duplicate 3 cX3_duplicate 3 none 1 := ⟨rfl, knX3_duplicate, ksX3_duplicate, kiX3, kcX3_duplicate, by decide +kernel⟩
theorem cvX3_swapTop : zcv yX3_swapTop 3 cX3_swapTop 4 none 1 := ⟨rfl, knX3_swapTop, ksX3_swapTop, kiX3, kcX3_swapTop, by decide +kernel⟩
theorem cvX3_turn : zcv yX3_turn 3 cX3_turn 3 none 2 := ⟨rfl, knX3_turn, ksX3_turn, kiX3, kcX3_turn, by decide +kernel⟩
theorem cvX3_move : zcv yX3_move 3 cX3_move 5 none 1 := ⟨rfl, knX3_move, ksX3_move, kiX3, kcX3_move, by decide +kernel⟩
theorem cvX3_fetch : zcv yX3_fetch 3 cX3_fetch 4 none 1 := ⟨rfl, knX3_fetch, ksX3_fetch, kiX3, kcX3_fetch, by decide +kernel⟩
theorem ctX3_cell : zct yX3_cell cX3_cell 2 (some .int) 2 := ⟨ktX3_cell, kiX3, kcX3_cell, by decide +kernel⟩
theorem ctX3_modulo : zct yX3_modulo cX3_modulo 3 (some .int) 2 := ⟨ktX3_modulo, kiX3, kcX3_modulo, by decide +kernel⟩
theorem cvX3_store : zcv yX3_store 3 cX3_store 5 none 1 := ⟨rfl, knX3_store, ksX3_store, kiX3, kcX3_store, by decide +kernel⟩
theorem cvX3_output : zcv yX3_output 3 cX3_output 3 none 1 := ⟨rfl, knX3_output, ksX3_output, kiX3, kcX3_output, by decide +kernel⟩
theorem cvX3_input : zcv yX3_input 3 cX3_input 4 none 1 := ⟨rfl, knX3_input, ksX3_input, kiX3, kcX3_input, by decide +kernel⟩
theorem ctX3_clamp : zct yX3_clamp cX3_clamp 2 (some .int) 2 := ⟨ktX3_clamp, kiX3, kcX3_clamp, by decide +kernel⟩
theorem cvX3_split : zcv yX3_split 3 cX3_split 4 none 1 := ⟨rfl, knX3_split, ksX3_split, kiX3, kcX3_split, by decide +kernel⟩
theorem cvX3_openStack : zcv yX3_openStack 3 cX3_openStack 5 none 1 := ⟨rfl, knX3_openStack, ksX3_openStack, kiX3, kcX3_openStack, by decide +kernel⟩
theorem cvX3_closeStack : zcv yX3_closeStack 3 cX3_closeStack 8 none 1 := ⟨rfl, knX3_closeStack, ksX3_closeStack, kiX3, kcX3_closeStack, by decide +kernel⟩
theorem cvX3_isAtBreakpoint : zcv yX3_isAtBreakpoint 3 cX3_isAtBreakpoint 3 (some .boolean) 0 := ⟨rfl, knX3_isAtBreakpoint, ksX3_isAtBreakpoint, kiX3, kcX3_isAtBreakpoint, by decide +kernel⟩
theorem cvX3_run : zcv yX3_run 3 cX3_run 2 (some .int) 1 := ⟨rfl, knX3_run, ksX3_run, kiX3, kcX3_run, by decide +kernel⟩
theorem cvX3_setBreakpoint : zcv yX3_setBreakpoint 3 cX3_setBreakpoint 5 (some .int) 3 := ⟨rfl, knX3_setBreakpoint, ksX3_setBreakpoint, kiX3, kcX3_setBreakpoint, by decide +kernel⟩
theorem cvX3_breakpoints : zcv yX3_breakpoints 3 cX3_breakpoints 3 (some .int) 0 := ⟨rfl, knX3_breakpoints, ksX3_breakpoints, kiX3, kcX3_breakpoints, by decide +kernel⟩
theorem cvX3_ticksToHalt : zcv yX3_ticksToHalt 3 cX3_ticksToHalt 2 (some .int) 1 := ⟨rfl, knX3_ticksToHalt, ksX3_ticksToHalt, kiX3, kcX3_ticksToHalt, by decide +kernel⟩
theorem cvX3_halts : zcv yX3_halts 3 cX3_halts 4 (some .int) 1 := ⟨rfl, knX3_halts, ksX3_halts, kiX3, kcX3_halts, by decide +kernel⟩
theorem cvX3_setAside : zcv yX3_setAside 3 cX3_setAside 2 none 0 := ⟨rfl, knX3_setAside, ksX3_setAside, kiX3, kcX3_setAside, by decide +kernel⟩
theorem cvX3_takeBack : zcv yX3_takeBack 3 cX3_takeBack 2 none 0 := ⟨rfl, knX3_takeBack, ksX3_takeBack, kiX3, kcX3_takeBack, by decide +kernel⟩
theorem cvX3_cycleStart : zcv yX3_cycleStart 3 cX3_cycleStart 2 (some .int) 1 := ⟨rfl, knX3_cycleStart, ksX3_cycleStart, kiX3, kcX3_cycleStart, by decide +kernel⟩
theorem cvX3_findCycle : zcv yX3_findCycle 3 cX3_findCycle 4 none 1 := ⟨rfl, knX3_findCycle, ksX3_findCycle, kiX3, kcX3_findCycle, by decide +kernel⟩
theorem cvX3_isSameAsFirst : zcv yX3_isSameAsFirst 3 cX3_isSameAsFirst 3 (some .boolean) 0 := ⟨rfl, knX3_isSameAsFirst, ksX3_isSameAsFirst, kiX3, kcX3_isSameAsFirst, by decide +kernel⟩
theorem cvX3_cycleLength : zcv yX3_cycleLength 3 cX3_cycleLength 2 (some .int) 1 := ⟨rfl, knX3_cycleLength, ksX3_cycleLength, kiX3, kcX3_cycleLength, by decide +kernel⟩
theorem cvX3_cellAt : zcv yX3_cellAt 3 cX3_cellAt 3 (some .int) 2 := ⟨rfl, knX3_cellAt, ksX3_cellAt, kiX3, kcX3_cellAt, by decide +kernel⟩
theorem cvX3_changedCells : zcv yX3_changedCells 3 cX3_changedCells 3 (some .int) 0 := ⟨rfl, knX3_changedCells, ksX3_changedCells, kiX3, kcX3_changedCells, by decide +kernel⟩
theorem cvX3_pointerCount : zcv yX3_pointerCount 3 cX3_pointerCount 1 (some .int) 0 := ⟨rfl, knX3_pointerCount, ksX3_pointerCount, kiX3, kcX3_pointerCount, by decide +kernel⟩
theorem cvX3_pointerAt : zcv yX3_pointerAt 3 cX3_pointerAt 2 (some .int) 1 := ⟨rfl, knX3_pointerAt, ksX3_pointerAt, kiX3, kcX3_pointerAt, by decide +kernel⟩
theorem cvX3_isPointer : zcv yX3_isPointer 3 cX3_isPointer 2 (some .boolean) 1 := ⟨rfl, knX3_isPointer, ksX3_isPointer, kiX3, kcX3_isPointer, by decide +kernel⟩
theorem cvX3_position : zcv yX3_position 3 cX3_position 2 (some .int) 1 := ⟨rfl, knX3_position, ksX3_position, kiX3, kcX3_position, by decide +kernel⟩
theorem cvX3_direction : zcv yX3_direction 3 cX3_direction 2 (some .int) 1 := ⟨rfl, knX3_direction, ksX3_direction, kiX3, kcX3_direction, by decide +kernel⟩
theorem cvX3_status : zcv yX3_status 3 cX3_status 2 (some .int) 1 := ⟨rfl, knX3_status, ksX3_status, kiX3, kcX3_status, by decide +kernel⟩
theorem cvX3_sleep : zcv yX3_sleep 3 cX3_sleep 2 (some .int) 1 := ⟨rfl, knX3_sleep, ksX3_sleep, kiX3, kcX3_sleep, by decide +kernel⟩
theorem cvX3_stackCount : zcv yX3_stackCount 3 cX3_stackCount 2 (some .int) 1 := ⟨rfl, knX3_stackCount, ksX3_stackCount, kiX3, kcX3_stackCount, by decide +kernel⟩
theorem cvX3_stackSize : zcv yX3_stackSize 3 cX3_stackSize 3 (some .int) 2 := ⟨rfl, knX3_stackSize, ksX3_stackSize, kiX3, kcX3_stackSize, by decide +kernel⟩
theorem cvX3_isStack : zcv yX3_isStack 3 cX3_isStack 3 (some .boolean) 2 := ⟨rfl, knX3_isStack, ksX3_isStack, kiX3, kcX3_isStack, by decide +kernel⟩
theorem cvX3_valueAt : zcv yX3_valueAt 3 cX3_valueAt 6 (some .int) 3 := ⟨rfl, knX3_valueAt, ksX3_valueAt, kiX3, kcX3_valueAt, by decide +kernel⟩
theorem cvX3_inputSize : zcv yX3_inputSize 3 cX3_inputSize 1 (some .int) 0 := ⟨rfl, knX3_inputSize, ksX3_inputSize, kiX3, kcX3_inputSize, by decide +kernel⟩
theorem cvX3_outputSize : zcv yX3_outputSize 3 cX3_outputSize 1 (some .int) 0 := ⟨rfl, knX3_outputSize, ksX3_outputSize, kiX3, kcX3_outputSize, by decide +kernel⟩
theorem cvX3_outputAt : zcv yX3_outputAt 3 cX3_outputAt 2 (some .int) 1 := ⟨rfl, knX3_outputAt, ksX3_outputAt, kiX3, kcX3_outputAt, by decide +kernel⟩
theorem cvX3_outputTotal : zcv yX3_outputTotal 3 cX3_outputTotal 1 (some .int) 0 := ⟨rfl, knX3_outputTotal, ksX3_outputTotal, kiX3, kcX3_outputTotal, by decide +kernel⟩
theorem cvX3_tickCount : zcv yX3_tickCount 3 cX3_tickCount 1 (some .int) 0 := ⟨rfl, knX3_tickCount, ksX3_tickCount, kiX3, kcX3_tickCount, by decide +kernel⟩
theorem cvX3_save : zcv yX3_save 3 cX3_save 3 (some .int) 1 := ⟨rfl, knX3_save, ksX3_save, kiX3, kcX3_save, by decide +kernel⟩
theorem cvX3_restore : zcv yX3_restore 3 cX3_restore 3 (some .int) 1 := ⟨rfl, knX3_restore, ksX3_restore, kiX3, kcX3_restore, by decide +kernel⟩
theorem cvX3_undoDepth : zcv yX3_undoDepth 3 cX3_undoDepth 1 (some .int) 0 := ⟨rfl, knX3_undoDepth, ksX3_undoDepth, kiX3, kcX3_undoDepth, by decide +kernel⟩
end
section
/-! reads and writes where one row stands by itself -/
section ZR
variable {own nm : String} {cc : ByteArray} {nL : Nat} {ret : Option FieldType} {R : Room} {mc ms : Nat} {Ph : Option zV → zS → zU → Prop} {pc : Nat} {L : List (Option zV)} {st : List zV} {S : zS} {mu : zU} {cells slots : Nat}
theorem zup_row (mu : zU) (k : Nat) (v : Nat → Int32) (j : Nat) (x : Int32) : zup (zrow mu k v) k j x = zrow mu k (upd v j x) := by
  funext q
  by_cases h : q = k
  · subst h; simp [zup, zrow]
  · simp [zup, zrow, h]
theorem zrow_row (mu : zU) (k : Nat) (v w : Nat → Int32) : zrow (zrow mu k v) k w = zrow mu k w := by
  funext q
  by_cases h : q = k
  · subst h; simp [zrow]
  · simp [zrow, h]
theorem zrow_self (mu : zU) (k : Nat) : zrow mu k (mu k) = mu := by
  funext q
  by_cases h : q = k
  · subst h; simp [zrow]
  · simp [zrow, h]
theorem zg_ialdR {k n j : Nat} {i : Int32} {v : Nat → Int32} (hd : decode cc pc = .ok (.iaload, 1)) (hk : S.2.1 k = (1, n)) (hN : k < S.1) (hi : i = nI j) (hj : j < n) (hn : n < 2 ^ 31) (kk : zG own nm cc nL ret R mc ms Ph (pc + 1) L (.inl (v j) :: st) S (zrow mu k v) cells slots) : zG own nm cc nL ret R mc ms Ph pc L (.inl i :: .inr (k + 1) :: st) S (zrow mu k v) cells slots :=
  zg_iald hd hk hN hi hj hn (by rw [zrow_s]; exact kk)
theorem zg_iastR {k n j : Nat} {i x : Int32} {v : Nat → Int32} (hd : decode cc pc = .ok (.iastore, 1)) (hk : S.2.1 k = (1, n)) (hN : k < S.1) (hi : i = nI j) (hj : j < n) (hn : n < 2 ^ 31) (kk : zG own nm cc nL ret R mc ms Ph (pc + 1) L st S (zrow mu k (upd v j x)) cells slots) : zG own nm cc nL ret R mc ms Ph pc L (.inl x :: .inl i :: .inr (k + 1) :: st) S (zrow mu k v) cells slots :=
  zg_iast hd hk hN hi hj hn (by rw [zup_row]; exact kk)
theorem zg_getIR {ix ci j k k2 : Nat} {v : Nat → Int32} (hd : decode cc pc = .ok (.getfield ix, 3)) (hf : zfl own ix ci j) (hj : j ∉ zrefs ci) (hk : S.2.1 k = (0, ci)) (hN : k < S.1) (hne : k ≠ k2) (kk : zG own nm cc nL ret R mc ms Ph (pc + 3) L (.inl (mu k j) :: st) S (zrow mu k2 v) cells slots) : zG own nm cc nL ret R mc ms Ph pc L (.inr (k + 1) :: st) S (zrow mu k2 v) cells slots :=
  zg_getI hd hf hj hk hN (by rw [zrow_n hne]; exact kk)
end ZR
end
section
/-! WHAT THE MACHINE DOES, over one row of 289 ints (program 0.., grid 72.., ticks 144, pointers 145, order 146.., pointer p at 150 + 25 p, input 250.., output 267.., total 288) -/
def zn (v : Nat → Int32) (i : Nat) : Nat := (v i).toNatClampNeg
theorem zn_of {v : Nat → Int32} {i a : Nat} (h : v i = nI a) (ha : a < 2 ^ 31) : zn v i = a := by rw [zn, h, nI_clamp ha]
theorem upd_s (f : Nat → Int32) (k : Nat) (x : Int32) : upd f k x k = x := by simp [upd]
theorem upd_n {f : Nat → Int32} {k j : Nat} {x : Int32} (h : j ≠ k) : upd f k x j = f j := by simp [upd, h]
def qheld (v : Nat → Int32) (o : Nat) : Nat := zn v (o + 6) + zn v (o + 7) + zn v (o + 8)
def qcur (v : Nat → Int32) (o : Nat) : Nat := o + 5 + zn v (o + 5)
def qpopR (v : Nat → Int32) (o : Nat) : Int32 := if v (qcur v o) = 0 then 0 else v (o + 8 + qheld v o)
def qpop (v : Nat → Int32) (o : Nat) : Nat → Int32 := if v (qcur v o) = 0 then v else upd (upd v (o + 8 + qheld v o) 0) (qcur v o) (v (qcur v o) - 1)
def qpush (v : Nat → Int32) (o : Nat) (x : Int32) : Nat → Int32 := if qheld v o = 16 then upd v (o + 3) (nI 2) else upd (upd v (o + 9 + qheld v o) x) (qcur v o) (v (qcur v o) + 1)
def qdx (d : Nat) : Nat := if d = 0 then 1 else if d = 2 then 11 else 0
def qdy (d : Nat) : Nat := if d = 1 then 1 else if d = 3 then 5 else 0
def qmove (v : Nat → Int32) (o : Nat) : Nat → Int32 := upd (upd v o (nI ((zn v o + qdx (zn v (o + 2))) % 12))) (o + 1) (nI ((zn v (o + 1) + qdy (zn v (o + 2))) % 6))
def qturn (v : Nat → Int32) (o n : Nat) : Nat → Int32 := upd v (o + 2) (nI ((zn v (o + 2) + n) % 4))
def qclamp (x : Int32) (n : Nat) : Nat := if x < 0 then 0 else if nI n < x then n else x.toNatClampNeg
def qopen2 (w : Nat → Int32) (o c k : Nat) : Nat → Int32 := upd (upd (upd w c (nI (zn w c - k))) (c + 1) (nI k)) (o + 5) (nI (zn w (o + 5) + 1))
def qopen1 (w : Nat → Int32) (o : Nat) (n : Int32) : Nat → Int32 := if zn w (o + 5) = 3 then w else qopen2 w o (qcur w o) (qclamp n (zn w (qcur w o)))
def qopen (v : Nat → Int32) (o : Nat) : Nat → Int32 := qopen1 (qpop v o) o (qpopR v o)
/-- of the values before e the last k go down by l, and the l before e become 0 -/
def qshift (w : Nat → Int32) (e k l : Nat) : Nat → Int32 := fun j => if e - k - l ≤ j ∧ j < e - l then w (j + l) else if e - l ≤ j ∧ j < e then 0 else w j
def qclose2 (w : Nat → Int32) (o c k : Nat) : Nat → Int32 := upd (upd (upd (qshift w (o + 9 + qheld w o) k (zn w c - k)) c 0) (c - 1) (nI (zn w (c - 1) + k))) (o + 5) (nI (zn w (o + 5) - 1))
def qclose1 (w : Nat → Int32) (o : Nat) (n : Int32) : Nat → Int32 := qclose2 w o (qcur w o) (qclamp n (zn w (qcur w o)))
def qclose (v : Nat → Int32) (o : Nat) : Nat → Int32 := if zn v (o + 5) = 1 then qturn v o 2 else qclose1 (qpop v o) o (qpopR v o)
def qout1 (v : Nat → Int32) : Nat → Int32 := if zn v 267 = 20 then (fun j => if 268 ≤ j ∧ j < 287 then v (j + 1) else if j = 267 then nI 19 else v j) else v
def qout2 (w : Nat → Int32) (x : Int32) : Nat → Int32 := upd (upd (upd w 267 (nI (zn w 267 + 1))) (268 + zn w 267) x) 288 (w 288 + 1)
def qout (v : Nat → Int32) (x : Int32) : Nat → Int32 := qout2 (qout1 v) x
def qinV (v : Nat → Int32) (n : Nat) : Nat → Int32 := fun j => if 251 ≤ j ∧ j < 250 + n then v (j + 1) else if j = 250 + n then 0 else if j = 250 then nI (n - 1) else v j
def qin (v : Nat → Int32) (o : Nat) : Nat → Int32 := if zn v 250 = 0 then qturn v o 2 else qpush (qinV v (zn v 250)) o (v 251)
def qplace (v : Nat → Int32) (p : Nat) : Nat → Nat
  | 0 => 0
  | n + 1 => if v (146 + n) = nI p then n + 1 else qplace v p n
def qcopy (v : Nat → Int32) (a b : Nat) : Nat → Int32 := fun j => if b ≤ j ∧ j < b + 25 then v (j - b + a) else v j
def qborn (v : Nat → Int32) (o b : Nat) : Nat → Int32 := qmove (qturn (upd (upd (qcopy v o b) (b + 3) (nI 0)) (b + 4) (nI 0)) b 2) b
def qins (w : Nat → Int32) (c t : Nat) : Nat → Int32 := fun j => if 146 + t < j ∧ j ≤ 146 + c then w (j - 1) else if j = 146 + t then nI c else w j
def qsplit2 (v : Nat → Int32) (p c : Nat) : Nat → Int32 := upd (qins (qborn v (150 + 25 * p) (150 + 25 * c)) c (qplace v p c)) 145 (nI (c + 1))
def qsplit (v : Nat → Int32) (p : Nat) : Nat → Int32 := if zn v 145 = 4 then v else qsplit2 v p (zn v 145)
def qmod (x : Int32) (n : Nat) : Nat := (x.toInt % (n : Int)).toNat
def qcell (x y : Int32) : Nat := 72 + 12 * qmod y 6 + qmod x 12
def qstore3 (v : Nat → Int32) (x y a : Int32) : Nat → Int32 := if nI 32 ≤ a ∧ a ≤ nI 126 then upd v (qcell x y) a else v
def qstore (v : Nat → Int32) (o : Nat) : Nat → Int32 := qstore3 (qpop (qpop (qpop v o) o) o) (qpopR (qpop v o) o) (qpopR v o) (qpopR (qpop (qpop v o) o) o)
def qfetch (v : Nat → Int32) (o : Nat) : Nat → Int32 := qpush (qpop (qpop v o) o) o (qpop (qpop v o) o (qcell (qpopR (qpop v o) o) (qpopR v o)))
def qpush2 (v : Nat → Int32) (o : Nat) (x y : Int32) : Nat → Int32 := if qpush v o x (o + 3) = 0 then qpush (qpush v o x) o y else qpush v o x
def qdup (v : Nat → Int32) (o : Nat) : Nat → Int32 := qpush2 (qpop v o) o (qpopR v o) (qpopR v o)
def qswap (v : Nat → Int32) (o : Nat) : Nat → Int32 := qpush2 (qpop (qpop v o) o) o (qpopR v o) (qpopR (qpop v o) o)
def qop (c a b : Int32) : Int32 := if c = nI 43 then a + b else if c = nI 45 then a - b else if c = nI 42 then a * b else if c = nI 47 then (if b = 0 then nI 0 else a / b) else if c = nI 37 then (if b = 0 then nI 0 else a - a / b * b) else (if b < a then nI 1 else nI 0)
def qbin (v : Nat → Int32) (o : Nat) (c : Int32) : Nat → Int32 := qpush (qpop (qpop v o) o) o (qop c (qpopR (qpop v o) o) (qpopR v o))
def qb (c : Prop) [Decidable c] (x y : Nat) : Int32 := if c then nI x else nI y
def qsteer (v : Nat → Int32) (o : Nat) (c : Int32) : Nat → Int32 :=
  if c = nI 62 then upd v (o + 2) (nI 0) else if c = nI 118 then upd v (o + 2) (nI 1) else if c = nI 60 then upd v (o + 2) (nI 2) else if c = nI 94 then upd v (o + 2) (nI 3)
  else if c = nI 95 then upd (qpop v o) (o + 2) (if qpopR v o = 0 then nI 0 else nI 2) else if c = nI 124 then upd (qpop v o) (o + 2) (if qpopR v o = 0 then nI 1 else nI 3)
  else if c = nI 91 then qturn v o 3 else if c = nI 93 then qturn v o 1 else if c = nI 114 then qturn v o 2 else if c = nI 35 then qmove v o else v
def qperf (v : Nat → Int32) (o : Nat) (c : Int32) : Nat → Int32 :=
  if nI 48 ≤ c ∧ c ≤ nI 57 then qpush v o (c - nI 48)
  else if c = nI 43 ∨ c = nI 45 ∨ c = nI 42 ∨ c = nI 47 ∨ c = nI 37 ∨ c = nI 96 then qbin v o c
  else if c = nI 33 then qpush (qpop v o) o (if qpopR v o = 0 then nI 1 else nI 0)
  else if c = nI 58 then qdup v o else if c = nI 92 then qswap v o else if c = nI 36 then qpop v o
  else if c = nI 123 then qopen v o else if c = nI 125 then qclose v o
  else if c = nI 119 then upd (qpop v o) (o + 4) (nI (qclamp (qpopR v o) 9)) else if c = nI 64 then upd v (o + 3) (nI 1)
  else qsteer v o c
def qexec (v : Nat → Int32) (p : Nat) (c : Int32) : Nat → Int32 :=
  if c = nI 103 then qfetch v (150 + 25 * p) else if c = nI 112 then qstore v (150 + 25 * p) else if c = nI 46 then qout (qpop v (150 + 25 * p)) (qpopR v (150 + 25 * p))
  else if c = nI 126 then qin v (150 + 25 * p) else if c = nI 116 then qsplit v p else qperf v (150 + 25 * p) c
def qend (w : Nat → Int32) (o : Nat) : Nat → Int32 := if w (o + 3) = 0 then qmove w o else w
def qtake (v : Nat → Int32) (p : Nat) : Nat → Int32 := if v (153 + 25 * p) ≠ 0 then v else if 0 < v (154 + 25 * p) then upd v (154 + 25 * p) (v (154 + 25 * p) - 1) else qend (qexec v p (v (72 + 12 * zn v (151 + 25 * p) + zn v (150 + 25 * p)))) (150 + 25 * p)
def qtakes (v0 : Nat → Int32) : Nat → Nat → Int32
  | 0 => v0
  | n + 1 => qtake (qtakes v0 n) (zn v0 (146 + n))
def qstep (v : Nat → Int32) : Nat → Int32 := upd (qtakes v (zn v 145)) 144 (qtakes v (zn v 145) 144 + 1)
/-- a pointer at o -/
def PI (v : Nat → Int32) (o : Nat) (x y dr ss sl ns s0 s1 s2 : Nat) : Prop :=
  v o = nI x ∧ v (o + 1) = nI y ∧ v (o + 2) = nI dr ∧ v (o + 3) = nI ss ∧ v (o + 4) = nI sl ∧ v (o + 5) = nI ns ∧ v (o + 6) = nI s0 ∧ v (o + 7) = nI s1 ∧ v (o + 8) = nI s2 ∧
  (x < 12 ∧ y < 6 ∧ dr < 4 ∧ ss < 3 ∧ sl ≤ 9 ∧ 1 ≤ ns ∧ ns ≤ 3 ∧ s0 + s1 + s2 ≤ 16 ∧ (ns = 1 → s1 = 0) ∧ (ns ≤ 2 → s2 = 0)) ∧ ∀ j, s0 + s1 + s2 ≤ j → j < 16 → v (o + 9 + j) = 0
/-- the shapes of the objects -/
def PS (S : zS) (k : Nat) : Prop := k + 2 < S.1 ∧ S.2.1 k = (0, 0) ∧ S.2.1 (k + 1) = (1, 16) ∧ S.2.1 (k + 2) = (1, 3) ∧ S.2.2 k 5 = k + 1 + 1 ∧ S.2.2 k 7 = k + 2 + 1
def SS (S : zS) (b : Nat) : Prop := b + 18 < S.1 ∧ S.2.1 b = (0, 1) ∧ S.2.1 (b + 1) = (1, 72) ∧ S.2.1 (b + 2) = (1, 72) ∧ S.2.1 (b + 3) = (3, 4) ∧ S.2.1 (b + 4) = (1, 4) ∧ S.2.1 (b + 5) = (1, 16) ∧ S.2.1 (b + 6) = (1, 20) ∧ S.2.2 b 0 = b + 1 + 1 ∧ S.2.2 b 1 = b + 2 + 1 ∧ S.2.2 b 2 = b + 3 + 1 ∧ S.2.2 b 3 = b + 4 + 1 ∧ S.2.2 b 5 = b + 5 + 1 ∧ S.2.2 b 7 = b + 6 + 1 ∧ ∀ i, i < 4 → S.2.2 (b + 3) i = b + 7 + 3 * i + 1 ∧ PS S (b + 7 + 3 * i)
def MS (S : zS) (m : Nat) : Prop := (m + 10 < S.1 ∧ S.2.1 m = (0, 3) ∧ S.2.1 (m + 1) = (1, 289) ∧ S.2.1 (m + 2) = (1, 289) ∧ S.2.1 (m + 3) = (1, 289) ∧ S.2.1 (m + 4) = (1, 289) ∧ S.2.1 (m + 5) = (1, 1734) ∧ S.2.1 (m + 6) = (1, 578) ∧ S.2.1 (m + 7) = (2, 2) ∧ S.2.1 (m + 8) = (2, 72) ∧ S.2.1 (m + 9) = (1, 90) ∧ S.2.1 (m + 10) = (1, 4)) ∧
  S.2.2 m 0 = m + 1 + 1 ∧ S.2.2 m 1 = m + 2 + 1 ∧ S.2.2 m 2 = m + 3 + 1 ∧ S.2.2 m 3 = m + 4 + 1 ∧ S.2.2 m 4 = m + 5 + 1 ∧ S.2.2 m 6 = m + 6 + 1 ∧ S.2.2 m 7 = m + 7 + 1 ∧ S.2.2 m 8 = m + 8 + 1 ∧ S.2.2 m 9 = m + 9 + 1 ∧ S.2.2 m 11 = m + 10 + 1
end
section
/-! numbers -/
theorem qclamp_in {x : Int32} {n : Nat} (h : 0 ≤ x) (h2 : x ≤ nI n) : nI (qclamp x n) = x := by
  rw [qclamp, if_neg (Int32.not_lt.mpr h), if_neg (Int32.not_lt.mpr h2)]
  obtain ⟨j, hj, rfl⟩ := nI_of (Int32.not_lt.mpr h)
  rw [nI_clamp hj]
theorem qclamp_le (x : Int32) {n : Nat} (hn : n < 2 ^ 31) : qclamp x n ≤ n := by
  rw [qclamp]
  split
  · omega
  · split
    · omega
    · rename_i h h2
      obtain ⟨j, hj, rfl⟩ := nI_of h
      rw [nI_clamp hj]
      rw [nI_ltI hn hj] at h2
      omega
theorem fb_rng (x : Int32) : -2147483648 ≤ x.toInt ∧ x.toInt < 2147483648 := by
  have h1 := Int32.le_toInt x
  have h2 := Int32.toInt_lt x
  omega
theorem fb_bmod {z : Int} (h1 : -2147483648 ≤ z) (h2 : z < 2147483648) : z.bmod (2 ^ 32) = z := by
  rw [Int.bmod_eq_of_le (by omega) (by omega)]
theorem fb_addI {x y : Int32} (h1 : -2147483648 ≤ x.toInt + y.toInt) (h2 : x.toInt + y.toInt < 2147483648) : (x + y).toInt = x.toInt + y.toInt := by
  rw [Int32.toInt_add, fb_bmod h1 h2]
theorem fb_subI {x y : Int32} (h1 : -2147483648 ≤ x.toInt - y.toInt) (h2 : x.toInt - y.toInt < 2147483648) : (x - y).toInt = x.toInt - y.toInt := by
  rw [Int32.toInt_sub, fb_bmod h1 h2]
theorem fb_mulI {x y : Int32} (h1 : -2147483648 ≤ x.toInt * y.toInt) (h2 : x.toInt * y.toInt < 2147483648) : (x * y).toInt = x.toInt * y.toInt := by
  rw [Int32.toInt_mul, fb_bmod h1 h2]
theorem tdiv_cs (x n : Int) : (0 ≤ x ∧ x.tdiv n = x / n) ∨ (x < 0 ∧ x.tdiv n = -((-x) / n)) := by
  by_cases h : 0 ≤ x
  · exact Or.inl ⟨h, Int.tdiv_eq_ediv_of_nonneg h⟩
  · refine Or.inr ⟨by omega, ?_⟩
    have h1 : x.tdiv n = -((-x).tdiv n) := by rw [Int.neg_tdiv, Int.neg_neg]
    rw [h1, Int.tdiv_eq_ediv_of_nonneg (by omega)]
theorem tdiv_b (X n : Int) (hn : n = 6 ∨ n = 12) : (0 ≤ X ∧ 0 ≤ X.tdiv n ∧ X.tdiv n * n ≤ X ∧ X < X.tdiv n * n + n) ∨ (X < 0 ∧ X.tdiv n ≤ 0 ∧ X ≤ X.tdiv n * n ∧ X.tdiv n * n - n < X) := by
  rcases tdiv_cs X n with ⟨a, b⟩ | ⟨a, b⟩ <;> rw [b] <;> rcases hn with rfl | rfl <;> omega
/-- the remainder that the machine computes, as a whole number: R = x - q n, with q rounded toward zero -/
theorem irem_toInt (x : Int32) {n : Nat} (hn : n = 6 ∨ n = 12) : ∃ q : Int, (x - x / nI n * nI n).toInt = x.toInt - q * n ∧ ((0 ≤ x.toInt ∧ q * n ≤ x.toInt ∧ x.toInt < q * n + n) ∨ (x.toInt < 0 ∧ x.toInt ≤ q * n ∧ q * n - n < x.toInt)) := by
  have hr := fb_rng x
  have e0 : (nI n).toInt = n := nI_toInt (by omega)
  have hk : (n : Int) = 6 ∨ (n : Int) = 12 := by omega
  generalize (n : Int) = k at e0 hk ⊢
  have hb := tdiv_b x.toInt k hk
  have e1 : (x / nI n).toInt = x.toInt.tdiv k := by
    rw [Int32.toInt_div, e0]
    generalize x.toInt.tdiv k = q at hb ⊢
    rw [fb_bmod] <;> rcases hk with rfl | rfl <;> omega
  generalize x.toInt.tdiv k = q at hb e1
  have e2 : (x / nI n * nI n).toInt = q * k := by
    rw [fb_mulI] <;> rw [e1, e0] <;> rcases hk with rfl | rfl <;> omega
  refine ⟨q, ?_, by rcases hb with h | h <;> omega⟩
  rw [fb_subI] <;> rw [e2] <;> rcases hk with rfl | rfl <;> omega
theorem qmod_lt (x : Int32) {n : Nat} (hn : n = 6 ∨ n = 12) : qmod x n < n := by
  rw [qmod]
  rcases hn with rfl | rfl <;> omega
theorem qmod_toInt (x : Int32) {n : Nat} (hn : n = 6 ∨ n = 12) : (nI (qmod x n)).toInt = x.toInt % n := by
  have h := qmod_lt x hn
  rw [nI_toInt (by omega), qmod]
  rcases hn with rfl | rfl <;> omega
theorem qmod_nn {x : Int32} {n : Nat} (hn : n = 6 ∨ n = 12) (h : 0 ≤ x - x / nI n * nI n) : x - x / nI n * nI n = nI (qmod x n) := by
  obtain ⟨q, e, hq⟩ := irem_toInt x hn
  have h0 : 0 ≤ (x - x / nI n * nI n).toInt := Int32.le_iff_toInt_le.mp h
  apply Int32.toInt_inj.1
  rw [qmod_toInt x hn]
  rw [e] at h0 ⊢
  rcases hn with rfl | rfl <;> omega
theorem qmod_neg {x : Int32} {n : Nat} (hn : n = 6 ∨ n = 12) (h : ¬ 0 ≤ x - x / nI n * nI n) : x - x / nI n * nI n + nI n = nI (qmod x n) := by
  obtain ⟨q, e, hq⟩ := irem_toInt x hn
  have h0 : (x - x / nI n * nI n).toInt < 0 := Int32.lt_iff_toInt_lt.mp (Int32.not_le.mp h)
  have e0 : (nI n).toInt = n := nI_toInt (by omega)
  apply Int32.toInt_inj.1
  rw [qmod_toInt x hn]
  have hr := fb_rng (x - x / nI n * nI n)
  rw [fb_addI (by rw [e0]; omega) (by rw [e0]; omega), e0]
  rw [e] at h0 ⊢
  rcases hn with rfl | rfl <;> omega
end
section
/-! THE REFERENCE's leaves -/
theorem n0 : nI 0 = (0 : Int32) := rfl
theorem n1 : nI 1 = (1 : Int32) := rfl
def PIsc (ns s0 s1 s2 : Nat) : Nat := if ns = 1 then s0 else if ns = 2 then s1 else s2
theorem PI.cur {v : Nat → Int32} {o x y dr ss sl ns s0 s1 s2 : Nat} (h : PI v o x y dr ss sl ns s0 s1 s2) : v (o + 5 + ns) = nI (PIsc ns s0 s1 s2) ∧ qcur v o = o + 5 + ns ∧ qheld v o = s0 + s1 + s2 ∧ PIsc ns s0 s1 s2 ≤ s0 + s1 + s2 := by
  obtain ⟨-, -, -, -, -, h5, h6, h7, h8, ⟨-, -, -, -, -, a1, a2, a3, -, -⟩, -⟩ := h
  refine ⟨?_, by rw [qcur, zn_of h5 (by omega)], by rw [qheld, zn_of h6 (by omega), zn_of h7 (by omega), zn_of h8 (by omega)], ?_⟩
  · rcases (show ns = 1 ∨ ns = 2 ∨ ns = 3 by omega) with rfl | rfl | rfl
    · exact h6
    · exact h7
    · exact h8
  · unfold PIsc
    repeat' split
    all_goals omega
set_option maxRecDepth 20000 in
theorem cm_in (S : zS) (mu : zU) (a b c : Int32) : zM yX3_in cX3_in 3 (some .boolean) 0 0 0 [.inl a, .inl b, .inl c] S mu (zPi S (fun r mu2 => mu2 = mu ∧ r = if b ≤ a ∧ a ≤ c then nI 1 else nI 0)) := by
  refine zM.ofG (by decide +kernel) (Nat.le_of_ble_eq_true rfl) ?_
  show zG RX3 "in" cX3_in 3 (some .boolean) (zroom 0 0 0) 0 0 _ 0 [some (.inl a), some (.inl b), some (.inl c)] [] S mu 0 0
  refine zg_iload_n (i := 0) dX3_in_0 rfl rfl ?_
  refine zg_iload_n (i := 1) dX3_in_1 rfl rfl ?_
  refine zg_icmp_lt (tgt := 14) dX3_in_2 (by decide) (fun h1 => ?_) (fun h1 => ?_)
  · refine zg_iconst (v := nI 0) dX3_in_14 (by decide) ?_
    exact zg_zret dX3_in_15 rfl (by first | assumption | (left; rfl) | (right; rfl) | (simp; done)) ⟨_, rfl, rfl, ⟨rfl, by rw [if_neg (fun z => Int32.not_le.mpr h1 z.1)]⟩⟩
  · refine zg_iload_n (i := 0) dX3_in_5 rfl rfl ?_
    refine zg_iload_n (i := 2) dX3_in_6 rfl rfl ?_
    refine zg_icmp_gt (tgt := 14) dX3_in_7 (by decide) (fun h2 => ?_) (fun h2 => ?_)
    · refine zg_iconst (v := nI 0) dX3_in_14 (by decide) ?_
      exact zg_zret dX3_in_15 rfl (by first | assumption | (left; rfl) | (right; rfl) | (simp; done)) ⟨_, rfl, rfl, ⟨rfl, by rw [if_neg (fun z => Int32.not_le.mpr h2 z.2)]⟩⟩
    · refine zg_iconst (v := nI 1) dX3_in_10 (by decide) ?_
      refine zg_goto (tgt := 15) dX3_in_11 (by decide) ?_
      exact zg_zret dX3_in_15 rfl (by first | assumption | (left; rfl) | (right; rfl) | (simp; done)) ⟨_, rfl, rfl, ⟨rfl, by rw [if_pos ⟨Int32.not_lt.mp h1, Int32.not_lt.mp h2⟩]⟩⟩
set_option maxRecDepth 20000 in
theorem cm_isCell (S : zS) (mu : zU) (x y : Int32) : zM yX3_isCell cX3_isCell 2 (some .boolean) 1 0 0 [.inl x, .inl y] S mu (zPi S (fun r mu2 => mu2 = mu ∧ r = if (nI 0 ≤ x ∧ x ≤ nI 11) ∧ nI 0 ≤ y ∧ y ≤ nI 5 then nI 1 else nI 0)) := by
  refine zM.ofG (by decide +kernel) (Nat.le_of_ble_eq_true rfl) ?_
  show zG RX3 "isCell" cX3_isCell 2 (some .boolean) (zroom 1 0 0) 0 0 _ 0 [some (.inl x), some (.inl y)] [] S mu 0 0
  refine zg_iload_n (i := 0) dX3_isCell_0 rfl rfl ?_
  refine zg_iconst (v := nI 0) dX3_isCell_1 (by decide) ?_
  refine zg_bipush (v := nI 11) dX3_isCell_2 (by decide) ?_
  refine zg_callSi (cm_in S mu x (nI 0) (nI 11)) dX3_isCell_4 ctX3_in mlX3_44 rfl rfl (Nat.le_of_ble_eq_true rfl) ⟨by decide, by decide⟩ ⟨Nat.le_refl _, Nat.le_refl _⟩ (fun r mu2 h2 => ?_)
  obtain ⟨rfl, rfl⟩ := h2
  by_cases hx : nI 0 ≤ x ∧ x ≤ nI 11
  · rw [if_pos hx]
    first | with_reducible refine zg_ifN_eq (tgt := 23) dX3_isCell_7 (by decide) (by omega) (fun c => ?_) (fun c => ?_) | refine zg_if_eq (tgt := 23) dX3_isCell_7 (by decide) (fun c => ?_) (fun c => ?_)
    · exact absurd c (by decide)
    · refine zg_iload_n (i := 1) dX3_isCell_10 rfl rfl ?_
      refine zg_iconst (v := nI 0) dX3_isCell_11 (by decide) ?_
      refine zg_iconst (v := nI 5) dX3_isCell_12 (by decide) ?_
      refine zg_callSi (cm_in S mu2 y (nI 0) (nI 5)) dX3_isCell_13 ctX3_in mlX3_44 rfl rfl (Nat.le_of_ble_eq_true rfl) ⟨by decide, by decide⟩ ⟨Nat.le_refl _, Nat.le_refl _⟩ (fun r mu2 h2 => ?_)
      obtain ⟨rfl, rfl⟩ := h2
      by_cases hy : nI 0 ≤ y ∧ y ≤ nI 5
      · rw [if_pos hy]
        first | with_reducible refine zg_ifN_eq (tgt := 23) dX3_isCell_16 (by decide) (by omega) (fun c => ?_) (fun c => ?_) | refine zg_if_eq (tgt := 23) dX3_isCell_16 (by decide) (fun c => ?_) (fun c => ?_)
        · exact absurd c (by decide)
        · refine zg_iconst (v := nI 1) dX3_isCell_19 (by decide) ?_
          refine zg_goto (tgt := 24) dX3_isCell_20 (by decide) ?_
          exact zg_zret dX3_isCell_24 rfl (by first | assumption | (left; rfl) | (right; rfl) | (simp; done)) ⟨_, rfl, rfl, ⟨rfl, by rw [if_pos ⟨hx, hy⟩]⟩⟩
      · rw [if_neg hy]
        first | with_reducible refine zg_ifN_eq (tgt := 23) dX3_isCell_16 (by decide) (by omega) (fun c => ?_) (fun c => ?_) | refine zg_if_eq (tgt := 23) dX3_isCell_16 (by decide) (fun c => ?_) (fun c => ?_)
        · refine zg_iconst (v := nI 0) dX3_isCell_23 (by decide) ?_
          exact zg_zret dX3_isCell_24 rfl (by first | assumption | (left; rfl) | (right; rfl) | (simp; done)) ⟨_, rfl, rfl, ⟨rfl, by rw [if_neg (fun z => hy z.2)]⟩⟩
        · exact absurd rfl c
  · rw [if_neg hx]
    first | with_reducible refine zg_ifN_eq (tgt := 23) dX3_isCell_7 (by decide) (by omega) (fun c => ?_) (fun c => ?_) | refine zg_if_eq (tgt := 23) dX3_isCell_7 (by decide) (fun c => ?_) (fun c => ?_)
    · refine zg_iconst (v := nI 0) dX3_isCell_23 (by decide) ?_
      exact zg_zret dX3_isCell_24 rfl (by first | assumption | (left; rfl) | (right; rfl) | (simp; done)) ⟨_, rfl, rfl, ⟨rfl, by rw [if_neg (fun z => hx z.1)]⟩⟩
    · exact absurd rfl c
set_option maxRecDepth 20000 in
theorem cm_of {S : zS} {m : Nat} (hS : MS S m) (mu : zU) (v : Nat → Int32) {p w : Nat} (h : 150 + 25 * p + w < 289) : zM yX3_of cX3_of 3 (some .int) 0 0 0 [.inr (m + 1), .inl (nI p), .inl (nI w)] S (zrow mu (m + 1) v) (zPi S (fun r mu2 => mu2 = zrow mu (m + 1) v ∧ r = v (150 + 25 * p + w))) := by
  obtain ⟨⟨hN, k0, k1, -⟩, r0, -⟩ := hS
  have hN0 : m < S.1 := by omega
  have hN1 : m + 1 < S.1 := by omega
  refine zM.ofG (by decide +kernel) (Nat.le_of_ble_eq_true rfl) ?_
  refine zg_aload_n (i := 0) dX3_of_0 rfl rfl ?_
  refine zg_getR dX3_of_1 flX3_7 (by decide) (by assumption) (by assumption) (by assumption) ?_
  refine zg_sipush (v := nI 150) dX3_of_4 (by decide) ?_
  refine zg_bipush (v := nI 25) dX3_of_7 (by decide) ?_
  refine zg_iload_n (i := 1) dX3_of_9 rfl rfl ?_
  first | with_reducible refine zg_imulN dX3_of_10 ?_ | refine zg_imul dX3_of_10 ?_
  first | with_reducible refine zg_iaddN dX3_of_11 ?_ | refine zg_iadd dX3_of_11 ?_
  refine zg_iload_n (i := 2) dX3_of_12 rfl rfl ?_
  first | with_reducible refine zg_iaddN dX3_of_13 ?_ | refine zg_iadd dX3_of_13 ?_
  first | with_reducible refine zg_ialdR dX3_of_14 (by assumption) (by assumption) rfl (by omega) (by decide) ?_ | refine zg_iald dX3_of_14 (by assumption) (by assumption) rfl (by omega) (by decide) ?_
  exact zg_iret dX3_of_15 rfl ⟨_, rfl, rfl, ⟨rfl, rfl⟩⟩
set_option maxRecDepth 20000 in
theorem cm_put {S : zS} {m : Nat} (hS : MS S m) (mu : zU) (v : Nat → Int32) {p w : Nat} (h : 150 + 25 * p + w < 289) (x : Int32) : zM yX3_put cX3_put 4 none 0 0 0 [.inr (m + 1), .inl (nI p), .inl (nI w), .inl x] S (zrow mu (m + 1) v) (zPv S (fun mu2 => mu2 = zrow mu (m + 1) (upd v (150 + 25 * p + w) x))) := by
  obtain ⟨⟨hN, k0, k1, -⟩, r0, -⟩ := hS
  have hN0 : m < S.1 := by omega
  have hN1 : m + 1 < S.1 := by omega
  refine zM.ofG (by decide +kernel) (Nat.le_of_ble_eq_true rfl) ?_
  refine zg_aload_n (i := 0) dX3_put_0 rfl rfl ?_
  refine zg_getR dX3_put_1 flX3_7 (by decide) (by assumption) (by assumption) (by assumption) ?_
  refine zg_sipush (v := nI 150) dX3_put_4 (by decide) ?_
  refine zg_bipush (v := nI 25) dX3_put_7 (by decide) ?_
  refine zg_iload_n (i := 1) dX3_put_9 rfl rfl ?_
  first | with_reducible refine zg_imulN dX3_put_10 ?_ | refine zg_imul dX3_put_10 ?_
  first | with_reducible refine zg_iaddN dX3_put_11 ?_ | refine zg_iadd dX3_put_11 ?_
  refine zg_iload_n (i := 2) dX3_put_12 rfl rfl ?_
  first | with_reducible refine zg_iaddN dX3_put_13 ?_ | refine zg_iadd dX3_put_13 ?_
  refine zg_iload_n (i := 3) dX3_put_14 rfl rfl ?_
  first | with_reducible refine zg_iastR dX3_put_15 (by assumption) (by assumption) rfl (by omega) (by decide) ?_ | refine zg_iast dX3_put_15 (by assumption) (by assumption) rfl (by omega) (by decide) ?_
  exact zg_vret dX3_put_16 rfl ⟨rfl, rfl, rfl⟩
end
section
/-! THE REFERENCE's work on one pointer -/
set_option maxRecDepth 20000 in
theorem cm_heldBy {S : zS} {m : Nat} (hS : MS S m) (mu : zU) {v : Nat → Int32} {p x y dr ss sl ns s0 s1 s2 : Nat} (hp : p < 4) (hP : PI v (150 + 25 * p) x y dr ss sl ns s0 s1 s2) : zM yX3_heldBy cX3_heldBy 2 (some .int) 1 0 0 [.inr (m + 1), .inl (nI p)] S (zrow mu (m + 1) v) (zPi S (fun r mu2 => mu2 = zrow mu (m + 1) v ∧ r = nI (s0 + s1 + s2))) := by
  have hS' := hS
  obtain ⟨⟨hN, k0, k1, -⟩, r0, -⟩ := hS'
  have hN0 : m < S.1 := by omega
  obtain ⟨-, -, -, -, -, h5, h6, h7, h8, ⟨-, -, -, -, -, a1, a2, a3, -, -⟩, -⟩ := hP
  generalize hmu : zrow mu (m + 1) v = mu1
  refine zM.ofG (by decide +kernel) (Nat.le_of_ble_eq_true rfl) ?_
  subst hmu
  refine zg_aload_n (i := 0) dX3_heldBy_0 rfl rfl ?_
  refine zg_iload_n (i := 1) dX3_heldBy_1 rfl rfl ?_
  refine zg_bipush (v := nI 6) dX3_heldBy_2 (by decide) ?_
  refine zg_callVi (cm_of hS mu v (p := p) (w := 6) (by omega)) dX3_heldBy_4 cvX3_of mlX3_69 rfl (by assumption) (by assumption) rfl (Nat.le_of_ble_eq_true rfl) ⟨by decide, by decide⟩ ⟨Nat.le_refl _, Nat.le_refl _⟩ (fun r mu2 h2 => ?_)
  obtain ⟨rfl, rfl⟩ := h2
  refine zg_val h6 ?_
  refine zg_aload_n (i := 0) dX3_heldBy_7 rfl rfl ?_
  refine zg_iload_n (i := 1) dX3_heldBy_8 rfl rfl ?_
  refine zg_bipush (v := nI 7) dX3_heldBy_9 (by decide) ?_
  refine zg_callVi (cm_of hS mu v (p := p) (w := 7) (by omega)) dX3_heldBy_11 cvX3_of mlX3_69 rfl (by assumption) (by assumption) rfl (Nat.le_of_ble_eq_true rfl) ⟨by decide, by decide⟩ ⟨Nat.le_refl _, Nat.le_refl _⟩ (fun r mu2 h2 => ?_)
  obtain ⟨rfl, rfl⟩ := h2
  refine zg_val h7 ?_
  first | with_reducible refine zg_iaddN dX3_heldBy_14 ?_ | refine zg_iadd dX3_heldBy_14 ?_
  refine zg_aload_n (i := 0) dX3_heldBy_15 rfl rfl ?_
  refine zg_iload_n (i := 1) dX3_heldBy_16 rfl rfl ?_
  refine zg_bipush (v := nI 8) dX3_heldBy_17 (by decide) ?_
  refine zg_callVi (cm_of hS mu v (p := p) (w := 8) (by omega)) dX3_heldBy_19 cvX3_of mlX3_69 rfl (by assumption) (by assumption) rfl (Nat.le_of_ble_eq_true rfl) ⟨by decide, by decide⟩ ⟨Nat.le_refl _, Nat.le_refl _⟩ (fun r mu2 h2 => ?_)
  obtain ⟨rfl, rfl⟩ := h2
  refine zg_val h8 ?_
  first | with_reducible refine zg_iaddN dX3_heldBy_22 ?_ | refine zg_iadd dX3_heldBy_22 ?_
  exact zg_iret dX3_heldBy_23 rfl ⟨_, rfl, rfl, ⟨rfl, rfl⟩⟩
set_option maxRecDepth 20000 in
theorem cm_current {S : zS} {m : Nat} (hS : MS S m) (mu : zU) {v : Nat → Int32} {p ns : Nat} (hp : p < 4) (h5 : v (150 + 25 * p + 5) = nI ns) (a1 : 1 ≤ ns) : zM yX3_current cX3_current 2 (some .int) 1 0 0 [.inr (m + 1), .inl (nI p)] S (zrow mu (m + 1) v) (zPi S (fun r mu2 => mu2 = zrow mu (m + 1) v ∧ r = nI (5 + ns))) := by
  have hS' := hS
  obtain ⟨⟨hN, k0, k1, -⟩, r0, -⟩ := hS'
  have hN0 : m < S.1 := by omega
  refine zM.ofG (by decide +kernel) (Nat.le_of_ble_eq_true rfl) ?_
  refine zg_bipush (v := nI 6) dX3_current_0 (by decide) ?_
  refine zg_aload_n (i := 0) dX3_current_2 rfl rfl ?_
  refine zg_iload_n (i := 1) dX3_current_3 rfl rfl ?_
  refine zg_iconst (v := nI 5) dX3_current_4 (by decide) ?_
  refine zg_callVi (cm_of hS mu v (p := p) (w := 5) (by omega)) dX3_current_5 cvX3_of mlX3_69 rfl (by assumption) (by assumption) rfl (Nat.le_of_ble_eq_true rfl) ⟨by decide, by decide⟩ ⟨Nat.le_refl _, Nat.le_refl _⟩ (fun r mu2 h2 => ?_)
  obtain ⟨rfl, rfl⟩ := h2
  refine zg_val h5 ?_
  first | with_reducible refine zg_iaddN dX3_current_8 ?_ | refine zg_iadd dX3_current_8 ?_
  refine zg_iconst (v := nI 1) dX3_current_9 (by decide) ?_
  first | with_reducible refine zg_isubN dX3_current_10 (by omega) ?_ | refine zg_isub dX3_current_10 ?_
  exact zg_iret dX3_current_11 rfl ⟨_, rfl, rfl, ⟨rfl, by congr 1; omega⟩⟩
set_option maxRecDepth 20000 in
theorem cm_pop {S : zS} {m : Nat} (hS : MS S m) (mu : zU) {v : Nat → Int32} {p x y dr ss sl ns s0 s1 s2 : Nat} (hp : p < 4) (hP : PI v (150 + 25 * p) x y dr ss sl ns s0 s1 s2) : zM yX3_pop cX3_pop 5 (some .int) 2 0 0 [.inr (m + 1), .inl (nI p)] S (zrow mu (m + 1) v) (zPi S (fun r mu2 => mu2 = zrow mu (m + 1) (qpop v (150 + 25 * p)) ∧ r = qpopR v (150 + 25 * p))) := by
  have hS' := hS
  obtain ⟨⟨hN, k0, k1, -⟩, r0, -⟩ := hS'
  have hN0 : m < S.1 := by omega
  obtain ⟨hc, hq, hh, hcl⟩ := hP.cur
  have hP' := hP
  obtain ⟨-, -, -, -, -, h5, h6, h7, h8, ⟨-, -, -, -, -, a1, a2, a3, -, -⟩, -⟩ := hP'
  refine zM.ofG (by decide +kernel) (Nat.le_of_ble_eq_true rfl) ?_
  refine zg_aload_n (i := 0) dX3_pop_0 rfl rfl ?_
  refine zg_iload_n (i := 1) dX3_pop_1 rfl rfl ?_
  refine zg_callVi (cm_current hS mu hp h5 a1) dX3_pop_2 cvX3_current mlX3_73 rfl (by assumption) (by assumption) rfl (Nat.le_of_ble_eq_true rfl) ⟨by decide, by decide⟩ ⟨Nat.le_refl _, Nat.le_refl _⟩ (fun r mu2 h2 => ?_)
  obtain ⟨rfl, rfl⟩ := h2
  refine zg_istore_n (i := 2) (L2 := [_, _, _, _, _]) dX3_pop_5 rfl (by decide) rfl ?_
  refine zg_aload_n (i := 0) dX3_pop_6 rfl rfl ?_
  refine zg_iload_n (i := 1) dX3_pop_7 rfl rfl ?_
  refine zg_iload_n (i := 2) dX3_pop_8 rfl rfl ?_
  refine zg_callVi (cm_of hS mu v (p := p) (w := 5 + ns) (by omega)) dX3_pop_9 cvX3_of mlX3_69 rfl (by assumption) (by assumption) rfl (Nat.le_of_ble_eq_true rfl) ⟨by decide, by decide⟩ ⟨Nat.le_refl _, Nat.le_refl _⟩ (fun r mu2 h2 => ?_)
  obtain ⟨rfl, rfl⟩ := h2
  refine zg_val (y := nI (PIsc ns s0 s1 s2)) (by rw [← Nat.add_assoc]; exact hc) ?_
  first | with_reducible refine zg_ifN_ne (tgt := 17) dX3_pop_12 (by decide) (by omega) (fun c => ?_) (fun c => ?_) | refine zg_if_ne (tgt := 17) dX3_pop_12 (by decide) (fun c => ?_) (fun c => ?_)
  · refine zg_bipush (v := nI 9) dX3_pop_17 (by decide) ?_
    refine zg_aload_n (i := 0) dX3_pop_19 rfl rfl ?_
    refine zg_iload_n (i := 1) dX3_pop_20 rfl rfl ?_
    refine zg_callVi (cm_heldBy hS mu hp hP) dX3_pop_21 cvX3_heldBy mlX3_77 rfl (by assumption) (by assumption) rfl (Nat.le_of_ble_eq_true rfl) ⟨by decide, by decide⟩ ⟨Nat.le_refl _, Nat.le_refl _⟩ (fun r mu2 h2 => ?_)
    obtain ⟨rfl, rfl⟩ := h2
    first | with_reducible refine zg_iaddN dX3_pop_24 ?_ | refine zg_iadd dX3_pop_24 ?_
    refine zg_iconst (v := nI 1) dX3_pop_25 (by decide) ?_
    first | with_reducible refine zg_isubN dX3_pop_26 (by omega) ?_ | refine zg_isub dX3_pop_26 ?_
    refine zg_istore_n (i := 3) (L2 := [_, _, _, _, _]) dX3_pop_27 rfl (by decide) rfl ?_
    refine zg_aload_n (i := 0) dX3_pop_28 rfl rfl ?_
    refine zg_iload_n (i := 1) dX3_pop_29 rfl rfl ?_
    refine zg_iload_n (i := 3) dX3_pop_30 rfl rfl ?_
    refine zg_callVi (cm_of hS mu v (p := p) (w := 9 + (s0 + s1 + s2) - 1) (by omega)) dX3_pop_31 cvX3_of mlX3_69 rfl (by assumption) (by assumption) rfl (Nat.le_of_ble_eq_true rfl) ⟨by decide, by decide⟩ ⟨Nat.le_refl _, Nat.le_refl _⟩ (fun r mu2 h2 => ?_)
    obtain ⟨rfl, rfl⟩ := h2
    refine zg_istore (L2 := [_, _, _, _, _]) dX3_pop_34 (by decide) rfl ?_
    refine zg_aload_n (i := 0) dX3_pop_36 rfl rfl ?_
    refine zg_iload_n (i := 1) dX3_pop_37 rfl rfl ?_
    refine zg_iload_n (i := 3) dX3_pop_38 rfl rfl ?_
    refine zg_iconst (v := nI 0) dX3_pop_39 (by decide) ?_
    refine zg_callVv (cm_put hS mu v (p := p) (w := 9 + (s0 + s1 + s2) - 1) (by omega) (nI 0)) dX3_pop_40 cvX3_put mlX3_80 rfl (by assumption) (by assumption) rfl (Nat.le_of_ble_eq_true rfl) ⟨by decide, by decide⟩ ⟨Nat.le_refl _, Nat.le_refl _⟩ (fun mu2 h2 => ?_)
    subst h2
    refine zg_aload_n (i := 0) dX3_pop_43 rfl rfl ?_
    refine zg_iload_n (i := 1) dX3_pop_44 rfl rfl ?_
    refine zg_iload_n (i := 2) dX3_pop_45 rfl rfl ?_
    refine zg_aload_n (i := 0) dX3_pop_46 rfl rfl ?_
    refine zg_iload_n (i := 1) dX3_pop_47 rfl rfl ?_
    refine zg_iload_n (i := 2) dX3_pop_48 rfl rfl ?_
    refine zg_callVi (cm_of hS mu (upd v (150 + 25 * p + (9 + (s0 + s1 + s2) - 1)) (nI 0)) (p := p) (w := 5 + ns) (by omega)) dX3_pop_49 cvX3_of mlX3_69 rfl (by assumption) (by assumption) rfl (Nat.le_of_ble_eq_true rfl) ⟨by decide, by decide⟩ ⟨Nat.le_refl _, Nat.le_refl _⟩ (fun r mu2 h2 => ?_)
    obtain ⟨rfl, rfl⟩ := h2
    refine zg_val (y := nI (PIsc ns s0 s1 s2)) (by rw [upd_n (by omega), ← Nat.add_assoc]; exact hc) ?_
    refine zg_iconst (v := nI 1) dX3_pop_52 (by decide) ?_
    first | with_reducible refine zg_isubN dX3_pop_53 (by omega) ?_ | refine zg_isub dX3_pop_53 ?_
    refine zg_callVv (cm_put hS mu _ (p := p) (w := 5 + ns) (by omega) (nI (PIsc ns s0 s1 s2 - 1))) dX3_pop_54 cvX3_put mlX3_80 rfl (by assumption) (by assumption) rfl (Nat.le_of_ble_eq_true rfl) ⟨by decide, by decide⟩ ⟨Nat.le_refl _, Nat.le_refl _⟩ (fun mu2 h2 => ?_)
    subst h2
    refine zg_iload dX3_pop_57 rfl ?_
    have hne : ¬ v (150 + 25 * p + 5 + ns) = 0 := by rw [hc, ← n0, nI_eq (by omega) (by omega)]; exact c
    refine zg_iret dX3_pop_59 rfl ⟨_, rfl, rfl, ?_⟩
    refine ⟨?_, ?_⟩
    · rw [qpop, hq, hh, if_neg hne, hc, show 150 + 25 * p + (9 + (s0 + s1 + s2) - 1) = 150 + 25 * p + 8 + (s0 + s1 + s2) by omega, ← Nat.add_assoc (150 + 25 * p) 5 ns, n0, ← pk_sub (by omega)]
      rfl
    · rw [qpopR, hq, hh, if_neg hne]
      congr 1
      omega
  · refine zg_iconst (v := nI 0) dX3_pop_15 (by decide) ?_
    have hz : v (150 + 25 * p + 5 + ns) = 0 := by rw [hc, c]; rfl
    exact zg_iret dX3_pop_16 rfl ⟨_, rfl, rfl, ⟨by rw [qpop, hq, if_pos hz], by rw [qpopR, hq, if_pos hz]; rfl⟩⟩
set_option maxRecDepth 20000 in
theorem cm_push {S : zS} {m : Nat} (hS : MS S m) (mu : zU) {v : Nat → Int32} {p x y dr ss sl ns s0 s1 s2 : Nat} (hp : p < 4) (hP : PI v (150 + 25 * p) x y dr ss sl ns s0 s1 s2) (e : Int32) : zM yX3_push cX3_push 4 none 2 0 0 [.inr (m + 1), .inl (nI p), .inl e] S (zrow mu (m + 1) v) (zPv S (fun mu2 => mu2 = zrow mu (m + 1) (qpush v (150 + 25 * p) e))) := by
  have hS' := hS
  obtain ⟨⟨hN, k0, k1, -⟩, r0, -⟩ := hS'
  have hN0 : m < S.1 := by omega
  obtain ⟨hc, hq, hh, hcl⟩ := hP.cur
  have hP' := hP
  obtain ⟨-, -, -, -, -, h5, h6, h7, h8, ⟨-, -, -, -, -, a1, a2, a3, -, -⟩, -⟩ := hP'
  refine zM.ofG (by decide +kernel) (Nat.le_of_ble_eq_true rfl) ?_
  refine zg_aload_n (i := 0) dX3_push_0 rfl rfl ?_
  refine zg_iload_n (i := 1) dX3_push_1 rfl rfl ?_
  refine zg_callVi (cm_heldBy hS mu hp hP) dX3_push_2 cvX3_heldBy mlX3_77 rfl (by assumption) (by assumption) rfl (Nat.le_of_ble_eq_true rfl) ⟨by decide, by decide⟩ ⟨Nat.le_refl _, Nat.le_refl _⟩ (fun r mu2 h2 => ?_)
  obtain ⟨rfl, rfl⟩ := h2
  refine zg_istore_n (i := 3) (L2 := [_, _, _, _]) dX3_push_5 rfl (by decide) rfl ?_
  refine zg_iload_n (i := 3) dX3_push_6 rfl rfl ?_
  refine zg_bipush (v := nI 16) dX3_push_7 (by decide) ?_
  first | with_reducible refine zg_icmpN_ne (tgt := 20) dX3_push_9 (by decide) (by omega) (by omega) (fun c => ?_) (fun c => ?_) | refine zg_icmp_ne (tgt := 20) dX3_push_9 (by decide) (fun c => ?_) (fun c => ?_)
  · refine zg_aload_n (i := 0) dX3_push_20 rfl rfl ?_
    refine zg_iload_n (i := 1) dX3_push_21 rfl rfl ?_
    refine zg_bipush (v := nI 9) dX3_push_22 (by decide) ?_
    refine zg_iload_n (i := 3) dX3_push_24 rfl rfl ?_
    first | with_reducible refine zg_iaddN dX3_push_25 ?_ | refine zg_iadd dX3_push_25 ?_
    refine zg_iload_n (i := 2) dX3_push_26 rfl rfl ?_
    refine zg_callVv (cm_put hS mu v (p := p) (w := 9 + (s0 + s1 + s2)) (by omega) e) dX3_push_27 cvX3_put mlX3_80 rfl (by assumption) (by assumption) rfl (Nat.le_of_ble_eq_true rfl) ⟨by decide, by decide⟩ ⟨Nat.le_refl _, Nat.le_refl _⟩ (fun mu2 h2 => ?_)
    subst h2
    have h5' : upd v (150 + 25 * p + (9 + (s0 + s1 + s2))) e (150 + 25 * p + 5) = nI ns := by rw [upd_n (by omega)]; exact h5
    refine zg_aload_n (i := 0) dX3_push_30 rfl rfl ?_
    refine zg_iload_n (i := 1) dX3_push_31 rfl rfl ?_
    refine zg_aload_n (i := 0) dX3_push_32 rfl rfl ?_
    refine zg_iload_n (i := 1) dX3_push_33 rfl rfl ?_
    refine zg_callVi (cm_current hS mu hp h5' a1) dX3_push_34 cvX3_current mlX3_73 rfl (by assumption) (by assumption) rfl (Nat.le_of_ble_eq_true rfl) ⟨by decide, by decide⟩ ⟨Nat.le_refl _, Nat.le_refl _⟩ (fun r mu2 h2 => ?_)
    obtain ⟨rfl, rfl⟩ := h2
    refine zg_aload_n (i := 0) dX3_push_37 rfl rfl ?_
    refine zg_iload_n (i := 1) dX3_push_38 rfl rfl ?_
    refine zg_aload_n (i := 0) dX3_push_39 rfl rfl ?_
    refine zg_iload_n (i := 1) dX3_push_40 rfl rfl ?_
    refine zg_callVi (cm_current hS mu hp h5' a1) dX3_push_41 cvX3_current mlX3_73 rfl (by assumption) (by assumption) rfl (Nat.le_of_ble_eq_true rfl) ⟨by decide, by decide⟩ ⟨Nat.le_refl _, Nat.le_refl _⟩ (fun r mu2 h2 => ?_)
    obtain ⟨rfl, rfl⟩ := h2
    refine zg_callVi (cm_of hS mu _ (p := p) (w := 5 + ns) (by omega)) dX3_push_44 cvX3_of mlX3_69 rfl (by assumption) (by assumption) rfl (Nat.le_of_ble_eq_true rfl) ⟨by decide, by decide⟩ ⟨Nat.le_refl _, Nat.le_refl _⟩ (fun r mu2 h2 => ?_)
    obtain ⟨rfl, rfl⟩ := h2
    refine zg_val (y := nI (PIsc ns s0 s1 s2)) (by rw [upd_n (by omega), ← Nat.add_assoc]; exact hc) ?_
    refine zg_iconst (v := nI 1) dX3_push_47 (by decide) ?_
    first | with_reducible refine zg_iaddN dX3_push_48 ?_ | refine zg_iadd dX3_push_48 ?_
    refine zg_callVv (cm_put hS mu _ (p := p) (w := 5 + ns) (by omega) (nI (PIsc ns s0 s1 s2 + 1))) dX3_push_49 cvX3_put mlX3_80 rfl (by assumption) (by assumption) rfl (Nat.le_of_ble_eq_true rfl) ⟨by decide, by decide⟩ ⟨Nat.le_refl _, Nat.le_refl _⟩ (fun mu2 h2 => ?_)
    subst h2
    refine zg_vret dX3_push_52 rfl ⟨rfl, rfl, ?_⟩
    show zrow _ _ _ = zrow _ _ _
    rw [qpush, hh, if_neg c, hq, hc, ← nI_1, show 150 + 25 * p + (9 + (s0 + s1 + s2)) = 150 + 25 * p + 9 + (s0 + s1 + s2) by omega, show 150 + 25 * p + (5 + ns) = 150 + 25 * p + 5 + ns by omega]
  · refine zg_aload_n (i := 0) dX3_push_12 rfl rfl ?_
    refine zg_iload_n (i := 1) dX3_push_13 rfl rfl ?_
    refine zg_iconst (v := nI 3) dX3_push_14 (by decide) ?_
    refine zg_iconst (v := nI 2) dX3_push_15 (by decide) ?_
    refine zg_callVv (cm_put hS mu v (p := p) (w := 3) (by omega) (nI 2)) dX3_push_16 cvX3_put mlX3_80 rfl (by assumption) (by assumption) rfl (Nat.le_of_ble_eq_true rfl) ⟨by decide, by decide⟩ ⟨Nat.le_refl _, Nat.le_refl _⟩ (fun mu2 h2 => ?_)
    subst h2
    refine zg_vret dX3_push_19 rfl ⟨rfl, rfl, ?_⟩
    show zrow _ _ _ = zrow _ _ _
    rw [qpush, hh, if_pos c]
set_option maxRecDepth 20000 in
theorem cm_modulo (S : zS) (mu : zU) (x : Int32) {n : Nat} (hn : n = 6 ∨ n = 12) : zM yX3_modulo cX3_modulo 3 (some .int) 0 0 0 [.inl x, .inl (nI n)] S mu (zPi S (fun r mu2 => mu2 = mu ∧ r = nI (qmod x n))) := by
  have hne : ¬ nI n = 0 := by rcases hn with rfl | rfl <;> decide
  refine zM.ofG (by decide +kernel) (Nat.le_of_ble_eq_true rfl) ?_
  refine zg_iload_n (i := 0) dX3_modulo_0 rfl rfl ?_
  refine zg_iload_n (i := 1) dX3_modulo_1 rfl rfl ?_
  refine zg_irem dX3_modulo_2 hne ?_
  refine zg_istore_n (i := 2) (L2 := [_, _, _]) dX3_modulo_3 rfl (by decide) rfl ?_
  refine zg_iload_n (i := 2) dX3_modulo_4 rfl rfl ?_
  refine zg_if_ge (tgt := 14) dX3_modulo_5 (by decide) (fun c => ?_) (fun c => ?_)
  · refine zg_iload_n (i := 2) dX3_modulo_14 rfl rfl ?_
    exact zg_iret dX3_modulo_15 rfl ⟨_, rfl, rfl, ⟨rfl, qmod_nn hn c⟩⟩
  · refine zg_iload_n (i := 2) dX3_modulo_8 rfl rfl ?_
    refine zg_iload_n (i := 1) dX3_modulo_9 rfl rfl ?_
    first | with_reducible refine zg_iaddN dX3_modulo_10 ?_ | refine zg_iadd dX3_modulo_10 ?_
    refine zg_goto (tgt := 15) dX3_modulo_11 (by decide) ?_
    exact zg_iret dX3_modulo_15 rfl ⟨_, rfl, rfl, ⟨rfl, qmod_neg hn c⟩⟩
set_option maxRecDepth 20000 in
theorem cm_cell (S : zS) (mu : zU) (x y : Int32) : zM yX3_cell cX3_cell 2 (some .int) 1 0 0 [.inl x, .inl y] S mu (zPi S (fun r mu2 => mu2 = mu ∧ r = nI (qcell x y))) := by
  refine zM.ofG (by decide +kernel) (Nat.le_of_ble_eq_true rfl) ?_
  refine zg_bipush (v := nI 72) dX3_cell_0 (by decide) ?_
  refine zg_bipush (v := nI 12) dX3_cell_2 (by decide) ?_
  refine zg_iload_n (i := 1) dX3_cell_4 rfl rfl ?_
  refine zg_bipush (v := nI 6) dX3_cell_5 (by decide) ?_
  refine zg_callSi (cm_modulo S mu y (n := 6) (Or.inl rfl)) dX3_cell_7 ctX3_modulo mlX3_84 rfl rfl (Nat.le_of_ble_eq_true rfl) ⟨by decide, by decide⟩ ⟨Nat.le_refl _, Nat.le_refl _⟩ (fun r mu2 h2 => ?_)
  obtain ⟨rfl, rfl⟩ := h2
  first | with_reducible refine zg_imulN dX3_cell_10 ?_ | refine zg_imul dX3_cell_10 ?_
  first | with_reducible refine zg_iaddN dX3_cell_11 ?_ | refine zg_iadd dX3_cell_11 ?_
  refine zg_iload_n (i := 0) dX3_cell_12 rfl rfl ?_
  refine zg_bipush (v := nI 12) dX3_cell_13 (by decide) ?_
  refine zg_callSi (cm_modulo S mu2 x (n := 12) (Or.inr rfl)) dX3_cell_15 ctX3_modulo mlX3_84 rfl rfl (Nat.le_of_ble_eq_true rfl) ⟨by decide, by decide⟩ ⟨Nat.le_refl _, Nat.le_refl _⟩ (fun r mu2 h2 => ?_)
  obtain ⟨rfl, rfl⟩ := h2
  first | with_reducible refine zg_iaddN dX3_cell_18 ?_ | refine zg_iadd dX3_cell_18 ?_
  exact zg_iret dX3_cell_19 rfl ⟨_, rfl, rfl, ⟨rfl, rfl⟩⟩
set_option maxRecDepth 20000 in
theorem cm_clamp (S : zS) (mu : zU) (x : Int32) {n : Nat} (hn : n < 2 ^ 31) : zM yX3_clamp cX3_clamp 2 (some .int) 0 0 0 [.inl x, .inl (nI n)] S mu (zPi S (fun r mu2 => mu2 = mu ∧ r = nI (qclamp x n))) := by
  refine zM.ofG (by decide +kernel) (Nat.le_of_ble_eq_true rfl) ?_
  refine zg_iload_n (i := 0) dX3_clamp_0 rfl rfl ?_
  refine zg_if_ge (tgt := 8) dX3_clamp_1 (by decide) (fun c => ?_) (fun c => ?_)
  · refine zg_iload_n (i := 0) dX3_clamp_8 rfl rfl ?_
    refine zg_iload_n (i := 1) dX3_clamp_9 rfl rfl ?_
    refine zg_icmp_le (tgt := 17) dX3_clamp_10 (by decide) (fun c2 => ?_) (fun c2 => ?_)
    · refine zg_iload_n (i := 0) dX3_clamp_17 rfl rfl ?_
      exact zg_iret dX3_clamp_18 rfl ⟨_, rfl, rfl, ⟨rfl, (qclamp_in c c2).symm⟩⟩
    · refine zg_iload_n (i := 1) dX3_clamp_13 rfl rfl ?_
      refine zg_goto (tgt := 18) dX3_clamp_14 (by decide) ?_
      exact zg_iret dX3_clamp_18 rfl ⟨_, rfl, rfl, ⟨rfl, by rw [qclamp, if_neg (Int32.not_lt.mpr c), if_pos (Int32.not_le.mp c2)]⟩⟩
  · refine zg_iconst (v := nI 0) dX3_clamp_4 (by decide) ?_
    refine zg_goto (tgt := 18) dX3_clamp_5 (by decide) ?_
    exact zg_iret dX3_clamp_18 rfl ⟨_, rfl, rfl, ⟨rfl, by rw [qclamp, if_pos (Int32.not_le.mp c)]⟩⟩
end
section
/-! A POINTER's place in the row, and what each instruction keeps of it -/
def PX1 (v : Nat → Int32) (o : Nat) : Prop := ∃ x y dr ss sl ns s0 s1 s2, PI v o x y dr ss sl ns s0 s1 s2
/-- the parts change, the rest stays -/
theorem PI_of {v w : Nat → Int32} {o x y dr ss sl ns s0 s1 s2 t0 t1 t2 : Nat} (h : PI v o x y dr ss sl ns s0 s1 s2) (h0 : ∀ i, i < 6 → w (o + i) = v (o + i)) (g0 : w (o + 6) = nI t0) (g1 : w (o + 7) = nI t1) (g2 : w (o + 8) = nI t2) (ht : t0 + t1 + t2 ≤ 16 ∧ (ns = 1 → t1 = 0) ∧ (ns ≤ 2 → t2 = 0)) (hz : ∀ j, t0 + t1 + t2 ≤ j → j < 16 → w (o + 9 + j) = 0) : PI w o x y dr ss sl ns t0 t1 t2 := by
  obtain ⟨e0, e1, e2, e3, e4, e5, -, -, -, ⟨b1, b2, b3, b4, b5, b6, b7, -, -, -⟩, -⟩ := h
  exact ⟨(h0 0 (by omega)).trans e0, (h0 1 (by omega)).trans e1, (h0 2 (by omega)).trans e2, (h0 3 (by omega)).trans e3, (h0 4 (by omega)).trans e4, (h0 5 (by omega)).trans e5, g0, g1, g2, ⟨b1, b2, b3, b4, b5, b6, b7, ht⟩, hz⟩
theorem PI.pop0 {v : Nat → Int32} {o x y dr ss sl ns s0 s1 s2 : Nat} (h : PI v o x y dr ss sl ns s0 s1 s2) (hz : PIsc ns s0 s1 s2 = 0) : qpop v o = v ∧ qpopR v o = 0 := by
  obtain ⟨hc, hq, -, -⟩ := h.cur
  have : v (o + 5 + ns) = 0 := by rw [hc, hz]; rfl
  exact ⟨by rw [qpop, hq, if_pos this], by rw [qpopR, hq, if_pos this]⟩
theorem PI.popE {v : Nat → Int32} {o x y dr ss sl ns s0 s1 s2 : Nat} (h : PI v o x y dr ss sl ns s0 s1 s2) (hz : PIsc ns s0 s1 s2 ≠ 0) : qpop v o = upd (upd v (o + 8 + (s0 + s1 + s2)) 0) (o + 5 + ns) (nI (PIsc ns s0 s1 s2 - 1)) ∧ qpopR v o = v (o + 8 + (s0 + s1 + s2)) := by
  obtain ⟨hc, hq, hh, hl⟩ := h.cur
  have a3 : s0 + s1 + s2 ≤ 16 := h.2.2.2.2.2.2.2.2.2.1.2.2.2.2.2.2.2.1
  have : ¬ v (o + 5 + ns) = 0 := by rw [hc, ← n0, nI_eq (by omega) (by omega)]; exact hz
  exact ⟨by rw [qpop, hq, hh, if_neg this, hc, ← pk_sub (by omega)]; rfl, by rw [qpopR, hq, hh, if_neg this]⟩
theorem PI.pop {v : Nat → Int32} {o x y dr ss sl ns s0 s1 s2 : Nat} (h : PI v o x y dr ss sl ns s0 s1 s2) (hz : PIsc ns s0 s1 s2 ≠ 0) : PI (qpop v o) o x y dr ss sl ns (if ns = 1 then s0 - 1 else s0) (if ns = 2 then s1 - 1 else s1) (if ns = 3 then s2 - 1 else s2) ∧ (if ns = 1 then s0 - 1 else s0) + (if ns = 2 then s1 - 1 else s1) + (if ns = 3 then s2 - 1 else s2) = s0 + s1 + s2 - 1 := by
  rw [(h.popE hz).1]
  obtain ⟨e0, e1, e2, e3, e4, e5, e6, e7, e8, ⟨b1, b2, b3, b4, b5, b6, b7, b8, b9, b10⟩, e9⟩ := id h
  have hsum : (if ns = 1 then s0 - 1 else s0) + (if ns = 2 then s1 - 1 else s1) + (if ns = 3 then s2 - 1 else s2) = s0 + s1 + s2 - 1 := by
    rcases (show ns = 1 ∨ ns = 2 ∨ ns = 3 by omega) with rfl | rfl | rfl <;> simp [PIsc] at hz ⊢ <;> omega
  have hpos : s0 + s1 + s2 ≠ 0 := by
    obtain ⟨-, -, -, hl⟩ := h.cur
    omega
  refine ⟨PI_of h (fun i hi => by rw [upd_n (by omega), upd_n (by omega)]) ?_ ?_ ?_ ⟨by omega, ?_, ?_⟩ ?_, hsum⟩
  · rcases (show ns = 1 ∨ ns = 2 ∨ ns = 3 by omega) with rfl | rfl | rfl
    · simp [upd, PIsc]
    · rw [upd_n (by omega), upd_n (by omega)]; exact e6
    · rw [upd_n (by omega), upd_n (by omega)]; exact e6
  · rcases (show ns = 1 ∨ ns = 2 ∨ ns = 3 by omega) with rfl | rfl | rfl
    · rw [upd_n (by omega), upd_n (by omega)]; exact e7
    · simp [upd, PIsc]
    · rw [upd_n (by omega), upd_n (by omega)]; exact e7
  · rcases (show ns = 1 ∨ ns = 2 ∨ ns = 3 by omega) with rfl | rfl | rfl
    · rw [upd_n (by omega), upd_n (by omega)]; exact e8
    · rw [upd_n (by omega), upd_n (by omega)]; exact e8
    · simp [upd, PIsc]
  · intro hn; subst hn; simpa using b9 rfl
  · intro hn
    rw [if_neg (by omega)]; exact b10 hn
  · rw [hsum]
    intro j h1 h2
    rw [upd_n (by omega)]
    by_cases hj : j + 1 = s0 + s1 + s2
    · rw [show o + 9 + j = o + 8 + (s0 + s1 + s2) by omega, upd_s]
    · rw [upd_n (by omega)]; exact e9 j (by omega) h2
theorem PI.pop1 {v : Nat → Int32} {o x y dr ss sl ns s0 s1 s2 : Nat} (h : PI v o x y dr ss sl ns s0 s1 s2) : ∃ t0 t1 t2, PI (qpop v o) o x y dr ss sl ns t0 t1 t2 ∧ t0 + t1 + t2 ≤ s0 + s1 + s2 := by
  by_cases hz : PIsc ns s0 s1 s2 = 0
  · rw [(h.pop0 hz).1]; exact ⟨_, _, _, h, Nat.le_refl _⟩
  · have := h.pop hz
    exact ⟨_, _, _, this.1, by omega⟩
theorem PI.pushE {v : Nat → Int32} {o x y dr ss sl ns s0 s1 s2 : Nat} (h : PI v o x y dr ss sl ns s0 s1 s2) (hz : s0 + s1 + s2 ≠ 16) (e : Int32) : qpush v o e = upd (upd v (o + 9 + (s0 + s1 + s2)) e) (o + 5 + ns) (nI (PIsc ns s0 s1 s2 + 1)) := by
  obtain ⟨hc, hq, hh, hl⟩ := h.cur
  rw [qpush, hh, if_neg hz, hq, hc, ← nI_1]
theorem PI.pushF {v : Nat → Int32} {o x y dr ss sl ns s0 s1 s2 : Nat} (h : PI v o x y dr ss sl ns s0 s1 s2) (hz : s0 + s1 + s2 = 16) (e : Int32) : qpush v o e = upd v (o + 3) (nI 2) := by
  obtain ⟨hc, hq, hh, hl⟩ := h.cur
  rw [qpush, hh, if_pos hz]
theorem PI.push {v : Nat → Int32} {o x y dr ss sl ns s0 s1 s2 : Nat} (h : PI v o x y dr ss sl ns s0 s1 s2) (hz : s0 + s1 + s2 ≠ 16) (e : Int32) : PI (qpush v o e) o x y dr ss sl ns (if ns = 1 then s0 + 1 else s0) (if ns = 2 then s1 + 1 else s1) (if ns = 3 then s2 + 1 else s2) ∧ (if ns = 1 then s0 + 1 else s0) + (if ns = 2 then s1 + 1 else s1) + (if ns = 3 then s2 + 1 else s2) = s0 + s1 + s2 + 1 := by
  rw [h.pushE hz]
  obtain ⟨e0, e1, e2, e3, e4, e5, e6, e7, e8, ⟨b1, b2, b3, b4, b5, b6, b7, b8, b9, b10⟩, e9⟩ := id h
  have hsum : (if ns = 1 then s0 + 1 else s0) + (if ns = 2 then s1 + 1 else s1) + (if ns = 3 then s2 + 1 else s2) = s0 + s1 + s2 + 1 := by
    rcases (show ns = 1 ∨ ns = 2 ∨ ns = 3 by omega) with rfl | rfl | rfl <;> simp <;> omega
  refine ⟨PI_of h (fun i hi => by rw [upd_n (by omega), upd_n (by omega)]) ?_ ?_ ?_ ⟨by omega, ?_, ?_⟩ ?_, hsum⟩
  · rcases (show ns = 1 ∨ ns = 2 ∨ ns = 3 by omega) with rfl | rfl | rfl
    · simp [upd, PIsc]
    · rw [upd_n (by omega), upd_n (by omega)]; exact e6
    · rw [upd_n (by omega), upd_n (by omega)]; exact e6
  · rcases (show ns = 1 ∨ ns = 2 ∨ ns = 3 by omega) with rfl | rfl | rfl
    · rw [upd_n (by omega), upd_n (by omega)]; exact e7
    · simp [upd, PIsc]
    · rw [upd_n (by omega), upd_n (by omega)]; exact e7
  · rcases (show ns = 1 ∨ ns = 2 ∨ ns = 3 by omega) with rfl | rfl | rfl
    · rw [upd_n (by omega), upd_n (by omega)]; exact e8
    · rw [upd_n (by omega), upd_n (by omega)]; exact e8
    · simp [upd, PIsc]
  · intro hn; subst hn; simpa using b9 rfl
  · intro hn
    rw [if_neg (by omega)]; exact b10 hn
  · rw [hsum]
    intro j h1 h2
    rw [upd_n (by omega), upd_n (by omega)]; exact e9 j (by omega) h2
/-- one of the first five numbers is set -/
theorem PI.dir {v : Nat → Int32} {o x y dr ss sl ns s0 s1 s2 : Nat} (h : PI v o x y dr ss sl ns s0 s1 s2) {d : Nat} (hd : d < 4) : PI (upd v (o + 2) (nI d)) o x y d ss sl ns s0 s1 s2 := by
  obtain ⟨e0, e1, e2, e3, e4, e5, e6, e7, e8, ⟨b1, b2, b3, b4, b5, b⟩, e9⟩ := h
  refine ⟨?_, ?_, upd_s _ _ _, ?_, ?_, ?_, ?_, ?_, ?_, ⟨b1, b2, hd, b4, b5, b⟩, fun j h1 h2 => ?_⟩ <;> rw [upd_n (by omega)] <;> first | assumption | exact e9 j h1 h2
theorem PI.stat {v : Nat → Int32} {o x y dr ss sl ns s0 s1 s2 : Nat} (h : PI v o x y dr ss sl ns s0 s1 s2) {d : Nat} (hd : d < 3) : PI (upd v (o + 3) (nI d)) o x y dr d sl ns s0 s1 s2 := by
  obtain ⟨e0, e1, e2, e3, e4, e5, e6, e7, e8, ⟨b1, b2, b3, b4, b5, b⟩, e9⟩ := h
  refine ⟨?_, ?_, ?_, upd_s _ _ _, ?_, ?_, ?_, ?_, ?_, ⟨b1, b2, b3, hd, b5, b⟩, fun j h1 h2 => ?_⟩ <;> rw [upd_n (by omega)] <;> first | assumption | exact e9 j h1 h2
theorem PI.slp {v : Nat → Int32} {o x y dr ss sl ns s0 s1 s2 : Nat} (h : PI v o x y dr ss sl ns s0 s1 s2) {d : Nat} (hd : d ≤ 9) : PI (upd v (o + 4) (nI d)) o x y dr ss d ns s0 s1 s2 := by
  obtain ⟨e0, e1, e2, e3, e4, e5, e6, e7, e8, ⟨b1, b2, b3, b4, b5, b⟩, e9⟩ := h
  refine ⟨?_, ?_, ?_, ?_, upd_s _ _ _, ?_, ?_, ?_, ?_, ⟨b1, b2, b3, b4, hd, b⟩, fun j h1 h2 => ?_⟩ <;> rw [upd_n (by omega)] <;> first | assumption | exact e9 j h1 h2
theorem PI.pos {v : Nat → Int32} {o x y dr ss sl ns s0 s1 s2 : Nat} (h : PI v o x y dr ss sl ns s0 s1 s2) {a b : Nat} (ha : a < 12) (hb : b < 6) : PI (upd (upd v o (nI a)) (o + 1) (nI b)) o a b dr ss sl ns s0 s1 s2 := by
  obtain ⟨e0, e1, e2, e3, e4, e5, e6, e7, e8, ⟨b1, b2, bb⟩, e9⟩ := h
  refine ⟨?_, upd_s _ _ _, ?_, ?_, ?_, ?_, ?_, ?_, ?_, ⟨ha, hb, bb⟩, fun j h1 h2 => ?_⟩
  · rw [upd_n (by omega), upd_s]
  all_goals rw [upd_n (by omega), upd_n (by omega)]
  all_goals first | assumption | exact e9 j h1 h2
theorem PI.push1 {v : Nat → Int32} {o x y dr ss sl ns s0 s1 s2 : Nat} (h : PI v o x y dr ss sl ns s0 s1 s2) (e : Int32) : ∃ ss2 t0 t1 t2, PI (qpush v o e) o x y dr ss2 sl ns t0 t1 t2 := by
  by_cases hz : s0 + s1 + s2 = 16
  · rw [h.pushF hz]; exact ⟨_, _, _, _, h.stat (by omega)⟩
  · exact ⟨_, _, _, _, (h.push hz e).1⟩
theorem PI.move {v : Nat → Int32} {o x y dr ss sl ns s0 s1 s2 : Nat} (h : PI v o x y dr ss sl ns s0 s1 s2) : qmove v o = upd (upd v o (nI ((x + qdx dr) % 12))) (o + 1) (nI ((y + qdy dr) % 6)) ∧ PI (qmove v o) o ((x + qdx dr) % 12) ((y + qdy dr) % 6) dr ss sl ns s0 s1 s2 := by
  obtain ⟨e0, e1, e2, e3, e4, e5, e6, e7, e8, ⟨b1, b2, b3, b⟩, e9⟩ := id h
  have : qmove v o = upd (upd v o (nI ((x + qdx dr) % 12))) (o + 1) (nI ((y + qdy dr) % 6)) := by rw [qmove, zn_of e0 (by omega), zn_of e1 (by omega), zn_of e2 (by omega)]
  exact ⟨this, by rw [this]; exact h.pos (by omega) (by omega)⟩
theorem PI.turn {v : Nat → Int32} {o x y dr ss sl ns s0 s1 s2 : Nat} (h : PI v o x y dr ss sl ns s0 s1 s2) (n : Nat) : qturn v o n = upd v (o + 2) (nI ((dr + n) % 4)) ∧ PI (qturn v o n) o x y ((dr + n) % 4) ss sl ns s0 s1 s2 := by
  obtain ⟨e0, e1, e2, e3, e4, e5, e6, e7, e8, ⟨b1, b2, b3, b⟩, e9⟩ := id h
  have : qturn v o n = upd v (o + 2) (nI ((dr + n) % 4)) := by rw [qturn, zn_of e2 (by omega)]
  exact ⟨this, by rw [this]; exact h.dir (by omega)⟩
end
section
/-! "{" and "}" over a pointer's place -/
theorem PI.ns {v : Nat → Int32} {o x y dr ss sl ns s0 s1 s2 : Nat} (h : PI v o x y dr ss sl ns s0 s1 s2) : zn v (o + 5) = ns ∧ 1 ≤ ns ∧ ns ≤ 3 ∧ s0 + s1 + s2 ≤ 16 := by
  obtain ⟨-, -, -, -, -, h5, h6, h7, h8, ⟨-, -, -, -, -, a1, a2, a3, -, -⟩, -⟩ := h
  exact ⟨zn_of h5 (by omega), a1, a2, a3⟩
theorem PI.opn {v : Nat → Int32} {o x y dr ss sl ns s0 s1 s2 k : Nat} (h : PI v o x y dr ss sl ns s0 s1 s2) (hn : ns ≠ 3) (hk : k ≤ PIsc ns s0 s1 s2) :
    qopen2 v o (o + 5 + ns) k = upd (upd (upd v (o + 5 + ns) (nI (PIsc ns s0 s1 s2 - k))) (o + 6 + ns) (nI k)) (o + 5) (nI (ns + 1)) ∧
    PI (qopen2 v o (o + 5 + ns) k) o x y dr ss sl (ns + 1) (if ns = 1 then s0 - k else s0) (if ns = 1 then k else s1 - k) (if ns = 1 then 0 else k) := by
  obtain ⟨hc, hq, hh, hl⟩ := h.cur
  obtain ⟨z5, a1, a2, a3⟩ := h.ns
  have e : qopen2 v o (o + 5 + ns) k = upd (upd (upd v (o + 5 + ns) (nI (PIsc ns s0 s1 s2 - k))) (o + 6 + ns) (nI k)) (o + 5) (nI (ns + 1)) := by
    rw [qopen2, z5, zn_of hc (by omega), show o + 5 + ns + 1 = o + 6 + ns by omega]
  refine ⟨e, ?_⟩
  rw [e]
  obtain ⟨e0, e1, e2, e3, e4, e5, e6, e7, e8, ⟨b1, b2, b3, b4, b5, b6, b7, b8, b9, b10⟩, e9⟩ := id h
  rcases (show ns = 1 ∨ ns = 2 by omega) with rfl | rfl
  · have hs1 := b9 rfl
    have hs2 := b10 (by omega)
    simp [PIsc] at hk
    refine ⟨?_, ?_, ?_, ?_, ?_, upd_s _ _ _, ?_, ?_, ?_, ⟨b1, b2, b3, b4, b5, by omega, by omega, by simp; omega, by omega, by simp⟩, fun j h1 h2 => ?_⟩
    · rw [upd_n (by omega), upd_n (by omega), upd_n (by omega)]; exact e0
    · rw [upd_n (by omega), upd_n (by omega), upd_n (by omega)]; exact e1
    · rw [upd_n (by omega), upd_n (by omega), upd_n (by omega)]; exact e2
    · rw [upd_n (by omega), upd_n (by omega), upd_n (by omega)]; exact e3
    · rw [upd_n (by omega), upd_n (by omega), upd_n (by omega)]; exact e4
    · rw [upd_n (by omega), upd_n (by omega)]; simp [upd, PIsc]
    · rw [upd_n (by omega)]; simp [upd]
    · rw [upd_n (by omega), upd_n (by omega), upd_n (by omega), e8, hs2]; rfl
    · rw [upd_n (by omega), upd_n (by omega), upd_n (by omega)]
      simp at h1
      exact e9 j (by omega) h2
  · have hs2 := b10 (by omega)
    simp [PIsc] at hk
    refine ⟨?_, ?_, ?_, ?_, ?_, upd_s _ _ _, ?_, ?_, ?_, ⟨b1, b2, b3, b4, b5, by omega, by omega, by simp; omega, by omega, by omega⟩, fun j h1 h2 => ?_⟩
    · rw [upd_n (by omega), upd_n (by omega), upd_n (by omega)]; exact e0
    · rw [upd_n (by omega), upd_n (by omega), upd_n (by omega)]; exact e1
    · rw [upd_n (by omega), upd_n (by omega), upd_n (by omega)]; exact e2
    · rw [upd_n (by omega), upd_n (by omega), upd_n (by omega)]; exact e3
    · rw [upd_n (by omega), upd_n (by omega), upd_n (by omega)]; exact e4
    · rw [upd_n (by omega), upd_n (by omega), upd_n (by omega)]; exact e6
    · rw [upd_n (by omega), upd_n (by omega)]; simp [upd, PIsc]
    · rw [upd_n (by omega)]; simp [upd]
    · rw [upd_n (by omega), upd_n (by omega), upd_n (by omega)]
      simp at h1
      exact e9 j (by omega) h2
theorem PI.cls {v : Nat → Int32} {o x y dr ss sl ns s0 s1 s2 k : Nat} (h : PI v o x y dr ss sl ns s0 s1 s2) (hn : ns ≠ 1) (hk : k ≤ PIsc ns s0 s1 s2) :
    qclose2 v o (o + 5 + ns) k = upd (upd (upd (qshift v (o + 9 + (s0 + s1 + s2)) k (PIsc ns s0 s1 s2 - k)) (o + 5 + ns) 0) (o + 4 + ns) (nI ((if ns = 2 then s0 else s1) + k))) (o + 5) (nI (ns - 1)) ∧
    PI (qclose2 v o (o + 5 + ns) k) o x y dr ss sl (ns - 1) (if ns = 2 then s0 + k else s0) (if ns = 2 then 0 else s1 + k) 0 := by
  obtain ⟨hc, hq, hh, hl⟩ := h.cur
  obtain ⟨z5, a1, a2, a3⟩ := h.ns
  obtain ⟨e0, e1, e2, e3, e4, e5, e6, e7, e8, ⟨b1, b2, b3, b4, b5, b6, b7, b8, b9, b10⟩, e9⟩ := id h
  have z4 : zn v (o + 5 + ns - 1) = if ns = 2 then s0 else s1 := by
    rcases (show ns = 2 ∨ ns = 3 by omega) with rfl | rfl
    · have := zn_of e6 (show s0 < 2 ^ 31 by omega)
      exact this
    · have := zn_of e7 (show s1 < 2 ^ 31 by omega)
      exact this
  have e : qclose2 v o (o + 5 + ns) k = upd (upd (upd (qshift v (o + 9 + (s0 + s1 + s2)) k (PIsc ns s0 s1 s2 - k)) (o + 5 + ns) 0) (o + 4 + ns) (nI ((if ns = 2 then s0 else s1) + k))) (o + 5) (nI (ns - 1)) := by
    rw [qclose2, z5, zn_of hc (by omega), hh, z4, show o + 5 + ns - 1 = o + 4 + ns by omega]
  refine ⟨e, ?_⟩
  rw [e]
  have hsh : ∀ i, i < o + 9 → qshift v (o + 9 + (s0 + s1 + s2)) k (PIsc ns s0 s1 s2 - k) i = v i := by
    intro i hi
    rw [qshift, if_neg (by omega), if_neg (by omega)]
  rcases (show ns = 2 ∨ ns = 3 by omega) with rfl | rfl
  · have hs2 := b10 (by omega)
    simp only [PIsc] at hk hsh ⊢
    simp only [if_neg (show ¬ (2 : Nat) = 1 by decide), if_true] at hk hsh ⊢
    refine ⟨?_, ?_, ?_, ?_, ?_, upd_s _ _ _, ?_, ?_, ?_, ⟨b1, b2, b3, b4, b5, by omega, by omega, by omega, by omega, by omega⟩, fun j h1 h2 => ?_⟩
    · rw [upd_n (by omega), upd_n (by omega), upd_n (by omega), hsh _ (by omega)]; exact e0
    · rw [upd_n (by omega), upd_n (by omega), upd_n (by omega), hsh _ (by omega)]; exact e1
    · rw [upd_n (by omega), upd_n (by omega), upd_n (by omega), hsh _ (by omega)]; exact e2
    · rw [upd_n (by omega), upd_n (by omega), upd_n (by omega), hsh _ (by omega)]; exact e3
    · rw [upd_n (by omega), upd_n (by omega), upd_n (by omega), hsh _ (by omega)]; exact e4
    · rw [upd_n (by omega)]; simp [upd]
    · rw [upd_n (by omega), upd_n (by omega)]; simp [upd]; rfl
    · rw [upd_n (by omega), upd_n (by omega), upd_n (by omega), hsh _ (by omega), e8, hs2]
    · rw [upd_n (by omega), upd_n (by omega), upd_n (by omega)]
      unfold qshift
      rw [if_neg (by omega)]
      by_cases hj : j < s0 + s1 + s2
      · rw [if_pos (by omega)]
      · rw [if_neg (by omega)]; exact e9 j (by omega) h2
  · simp only [PIsc] at hk hsh ⊢
    simp only [if_neg (show ¬ (3 : Nat) = 1 by decide), if_neg (show ¬ (3 : Nat) = 2 by decide)] at hk hsh ⊢
    refine ⟨?_, ?_, ?_, ?_, ?_, upd_s _ _ _, ?_, ?_, ?_, ⟨b1, b2, b3, b4, b5, by omega, by omega, by omega, by omega, by omega⟩, fun j h1 h2 => ?_⟩
    · rw [upd_n (by omega), upd_n (by omega), upd_n (by omega), hsh _ (by omega)]; exact e0
    · rw [upd_n (by omega), upd_n (by omega), upd_n (by omega), hsh _ (by omega)]; exact e1
    · rw [upd_n (by omega), upd_n (by omega), upd_n (by omega), hsh _ (by omega)]; exact e2
    · rw [upd_n (by omega), upd_n (by omega), upd_n (by omega), hsh _ (by omega)]; exact e3
    · rw [upd_n (by omega), upd_n (by omega), upd_n (by omega), hsh _ (by omega)]; exact e4
    · rw [upd_n (by omega), upd_n (by omega), upd_n (by omega), hsh _ (by omega)]; exact e6
    · rw [upd_n (by omega)]; simp [upd]
    · rw [upd_n (by omega), upd_n (by omega)]; simp [upd]; rfl
    · rw [upd_n (by omega), upd_n (by omega), upd_n (by omega)]
      unfold qshift
      rw [if_neg (by omega)]
      by_cases hj : j < s0 + s1 + s2
      · rw [if_pos (by omega)]
      · rw [if_neg (by omega)]; exact e9 j (by omega) h2
end
section
/-! THE REFERENCE: moves, turns, stacks of stacks -/
set_option maxRecDepth 20000 in
theorem cm_turn {S : zS} {m : Nat} (hS : MS S m) (mu : zU) {v : Nat → Int32} {p x y dr ss sl ns s0 s1 s2 : Nat} (hp : p < 4) (hP : PI v (150 + 25 * p) x y dr ss sl ns s0 s1 s2) {n : Nat} (hn : n < 4) : zM yX3_turn cX3_turn 3 none 1 0 0 [.inr (m + 1), .inl (nI p), .inl (nI n)] S (zrow mu (m + 1) v) (zPv S (fun mu2 => mu2 = zrow mu (m + 1) (qturn v (150 + 25 * p) n))) := by
  obtain ⟨⟨hN, k0, k1, -⟩, r0, -⟩ := id hS
  have hN0 : m < S.1 := by omega
  rw [(hP.turn n).1]
  have h2' : v (150 + 25 * p + 2) = nI dr := hP.2.2.1
  have hdr : dr < 4 := hP.2.2.2.2.2.2.2.2.2.1.2.2.1
  refine zM.ofG (by decide +kernel) (Nat.le_of_ble_eq_true rfl) ?_
  refine zg_aload_n (i := 0) dX3_turn_0 rfl rfl ?_
  refine zg_iload_n (i := 1) dX3_turn_1 rfl rfl ?_
  refine zg_iconst (v := nI 2) dX3_turn_2 (by decide) ?_
  refine zg_aload_n (i := 0) dX3_turn_3 rfl rfl ?_
  refine zg_iload_n (i := 1) dX3_turn_4 rfl rfl ?_
  refine zg_iconst (v := nI 2) dX3_turn_5 (by decide) ?_
  refine zg_callVi (cm_of hS mu v (p := p) (w := 2) (by omega)) dX3_turn_6 cvX3_of mlX3_69 rfl (by assumption) (by assumption) rfl (Nat.le_of_ble_eq_true rfl) ⟨by decide, by decide⟩ ⟨Nat.le_refl _, Nat.le_refl _⟩ (fun r mu2 h2 => ?_)
  obtain ⟨rfl, rfl⟩ := h2
  refine zg_val h2' ?_
  refine zg_iload_n (i := 2) dX3_turn_9 rfl rfl ?_
  first | with_reducible refine zg_iaddN dX3_turn_10 ?_ | refine zg_iadd dX3_turn_10 ?_
  refine zg_iconst (v := nI 4) dX3_turn_11 (by decide) ?_
  first | with_reducible refine zg_iremN dX3_turn_12 (by omega) (by omega) (by omega) ?_ | refine zg_irem dX3_turn_12 (by assumption) ?_
  refine zg_callVv (cm_put hS mu v (p := p) (w := 2) (by omega) _) dX3_turn_13 cvX3_put mlX3_80 rfl (by assumption) (by assumption) rfl (Nat.le_of_ble_eq_true rfl) ⟨by decide, by decide⟩ ⟨Nat.le_refl _, Nat.le_refl _⟩ (fun mu2 h2 => ?_)
  subst h2
  exact zg_vret dX3_turn_16 rfl ⟨rfl, rfl, rfl⟩
set_option maxRecDepth 20000 in
theorem lm_move1 {S : zS} {m : Nat} (hS : MS S m) (mu : zU) {v : Nat → Int32} {p x y dr ss sl ns s0 s1 s2 : Nat} (hp : p < 4) (hP : PI v (150 + 25 * p) x y dr ss sl ns s0 s1 s2) {a b : Nat} (ha : a < 20) (hb : b < 20) (Ph : Option zV → zS → zU → Prop) (hx : Ph none S (zrow mu (m + 1) (upd (upd v (150 + 25 * p) (nI ((x + a) % 12))) (150 + 25 * p + 1) (nI ((y + b) % 6))))) :
    zG RX3 "move" cX3_move 5 none (zroom 1 0 0) 0 0 Ph 46 [some (.inr (m + 1)), some (.inl (nI p)), some (.inl (nI dr)), some (.inl (nI a)), none] [.inl (nI b)] S (zrow mu (m + 1) v) 0 0 := by
  obtain ⟨⟨hN, k0, k1, -⟩, r0, -⟩ := id hS
  have hN0 : m < S.1 := by omega
  have h0' : v (150 + 25 * p + 0) = nI x := hP.1
  have h1' : v (150 + 25 * p + 1) = nI y := hP.2.1
  have hx12 : x < 12 := hP.2.2.2.2.2.2.2.2.2.1.1
  have hy6 : y < 6 := hP.2.2.2.2.2.2.2.2.2.1.2.1
  refine zg_istore (L2 := [_, _, _, _, _]) dX3_move_46 (by decide) rfl ?_
  refine zg_aload_n (i := 0) dX3_move_48 rfl rfl ?_
  refine zg_iload_n (i := 1) dX3_move_49 rfl rfl ?_
  refine zg_iconst (v := nI 0) dX3_move_50 (by decide) ?_
  refine zg_aload_n (i := 0) dX3_move_51 rfl rfl ?_
  refine zg_iload_n (i := 1) dX3_move_52 rfl rfl ?_
  refine zg_iconst (v := nI 0) dX3_move_53 (by decide) ?_
  refine zg_callVi (cm_of hS mu v (p := p) (w := 0) (by omega)) dX3_move_54 cvX3_of mlX3_69 rfl (by assumption) (by assumption) rfl (Nat.le_of_ble_eq_true rfl) ⟨by decide, by decide⟩ ⟨Nat.le_refl _, Nat.le_refl _⟩ (fun r mu2 h2 => ?_)
  obtain ⟨rfl, rfl⟩ := h2
  refine zg_val h0' ?_
  refine zg_iload_n (i := 3) dX3_move_57 rfl rfl ?_
  first | with_reducible refine zg_iaddN dX3_move_58 ?_ | refine zg_iadd dX3_move_58 ?_
  refine zg_bipush (v := nI 12) dX3_move_59 (by decide) ?_
  first | with_reducible refine zg_iremN dX3_move_61 (by omega) (by omega) (by omega) ?_ | refine zg_irem dX3_move_61 (by assumption) ?_
  refine zg_callVv (cm_put hS mu v (p := p) (w := 0) (by omega) _) dX3_move_62 cvX3_put mlX3_80 rfl (by assumption) (by assumption) rfl (Nat.le_of_ble_eq_true rfl) ⟨by decide, by decide⟩ ⟨Nat.le_refl _, Nat.le_refl _⟩ (fun mu2 h2 => ?_)
  subst h2
  refine zg_aload_n (i := 0) dX3_move_65 rfl rfl ?_
  refine zg_iload_n (i := 1) dX3_move_66 rfl rfl ?_
  refine zg_iconst (v := nI 1) dX3_move_67 (by decide) ?_
  refine zg_aload_n (i := 0) dX3_move_68 rfl rfl ?_
  refine zg_iload_n (i := 1) dX3_move_69 rfl rfl ?_
  refine zg_iconst (v := nI 1) dX3_move_70 (by decide) ?_
  refine zg_callVi (cm_of hS mu _ (p := p) (w := 1) (by omega)) dX3_move_71 cvX3_of mlX3_69 rfl (by assumption) (by assumption) rfl (Nat.le_of_ble_eq_true rfl) ⟨by decide, by decide⟩ ⟨Nat.le_refl _, Nat.le_refl _⟩ (fun r mu2 h2 => ?_)
  obtain ⟨rfl, rfl⟩ := h2
  refine zg_val (y := nI y) (by rw [upd_n (by omega)]; exact h1') ?_
  refine zg_iload dX3_move_74 rfl ?_
  first | with_reducible refine zg_iaddN dX3_move_76 ?_ | refine zg_iadd dX3_move_76 ?_
  refine zg_bipush (v := nI 6) dX3_move_77 (by decide) ?_
  first | with_reducible refine zg_iremN dX3_move_79 (by omega) (by omega) (by omega) ?_ | refine zg_irem dX3_move_79 (by assumption) ?_
  refine zg_callVv (cm_put hS mu _ (p := p) (w := 1) (by omega) _) dX3_move_80 cvX3_put mlX3_80 rfl (by assumption) (by assumption) rfl (Nat.le_of_ble_eq_true rfl) ⟨by decide, by decide⟩ ⟨Nat.le_refl _, Nat.le_refl _⟩ (fun mu2 h2 => ?_)
  subst h2
  exact zg_vret dX3_move_83 rfl hx
set_option maxRecDepth 20000 in
theorem lm_move2 {S : zS} {m : Nat} (hS : MS S m) (mu : zU) {v : Nat → Int32} {p x y dr ss sl ns s0 s1 s2 : Nat} (hp : p < 4) (hP : PI v (150 + 25 * p) x y dr ss sl ns s0 s1 s2) {a : Nat} (ha : a < 20) (Ph : Option zV → zS → zU → Prop) (hx : Ph none S (zrow mu (m + 1) (upd (upd v (150 + 25 * p) (nI ((x + a) % 12))) (150 + 25 * p + 1) (nI ((y + qdy dr) % 6))))) :
    zG RX3 "move" cX3_move 5 none (zroom 1 0 0) 0 0 Ph 26 [some (.inr (m + 1)), some (.inl (nI p)), some (.inl (nI dr)), none, none] [.inl (nI a)] S (zrow mu (m + 1) v) 0 0 := by
  have hdr : dr < 4 := hP.2.2.2.2.2.2.2.2.2.1.2.2.1
  refine zg_istore_n (i := 3) (L2 := [_, _, _, _, _]) dX3_move_26 rfl (by decide) rfl ?_
  refine zg_iload_n (i := 2) dX3_move_27 rfl rfl ?_
  refine zg_iconst (v := nI 1) dX3_move_28 (by decide) ?_
  first | with_reducible refine zg_icmpN_ne (tgt := 36) dX3_move_29 (by decide) (by omega) (by omega) (fun c => ?_) (fun c => ?_) | refine zg_icmp_ne (tgt := 36) dX3_move_29 (by decide) (fun c => ?_) (fun c => ?_)
  · refine zg_iload_n (i := 2) dX3_move_36 rfl rfl ?_
    refine zg_iconst (v := nI 3) dX3_move_37 (by decide) ?_
    first | with_reducible refine zg_icmpN_ne (tgt := 45) dX3_move_38 (by decide) (by omega) (by omega) (fun c2 => ?_) (fun c2 => ?_) | refine zg_icmp_ne (tgt := 45) dX3_move_38 (by decide) (fun c2 => ?_) (fun c2 => ?_)
    · refine zg_iconst (v := nI 0) dX3_move_45 (by decide) ?_
      rw [show qdy dr = 0 by rw [qdy, if_neg c, if_neg c2]] at hx
      exact lm_move1 hS mu hp hP ha (by omega) Ph hx
    · refine zg_iconst (v := nI 5) dX3_move_41 (by decide) ?_
      refine zg_goto (tgt := 46) dX3_move_42 (by decide) ?_
      rw [show qdy dr = 5 by rw [qdy, if_neg c, if_pos c2]] at hx
      exact lm_move1 hS mu hp hP ha (by omega) Ph hx
  · refine zg_iconst (v := nI 1) dX3_move_32 (by decide) ?_
    refine zg_goto (tgt := 46) dX3_move_33 (by decide) ?_
    rw [show qdy dr = 1 by rw [qdy, if_pos c]] at hx
    exact lm_move1 hS mu hp hP ha (by omega) Ph hx
set_option maxRecDepth 20000 in
theorem cm_move {S : zS} {m : Nat} (hS : MS S m) (mu : zU) {v : Nat → Int32} {p x y dr ss sl ns s0 s1 s2 : Nat} (hp : p < 4) (hP : PI v (150 + 25 * p) x y dr ss sl ns s0 s1 s2) : zM yX3_move cX3_move 5 none 1 0 0 [.inr (m + 1), .inl (nI p)] S (zrow mu (m + 1) v) (zPv S (fun mu2 => mu2 = zrow mu (m + 1) (qmove v (150 + 25 * p)))) := by
  obtain ⟨⟨hN, k0, k1, -⟩, r0, -⟩ := id hS
  have hN0 : m < S.1 := by omega
  have h2' : v (150 + 25 * p + 2) = nI dr := hP.2.2.1
  have hdr : dr < 4 := hP.2.2.2.2.2.2.2.2.2.1.2.2.1
  rw [hP.move.1]
  refine zM.ofG (by decide +kernel) (Nat.le_of_ble_eq_true rfl) ?_
  refine zg_aload_n (i := 0) dX3_move_0 rfl rfl ?_
  refine zg_iload_n (i := 1) dX3_move_1 rfl rfl ?_
  refine zg_iconst (v := nI 2) dX3_move_2 (by decide) ?_
  refine zg_callVi (cm_of hS mu v (p := p) (w := 2) (by omega)) dX3_move_3 cvX3_of mlX3_69 rfl (by assumption) (by assumption) rfl (Nat.le_of_ble_eq_true rfl) ⟨by decide, by decide⟩ ⟨Nat.le_refl _, Nat.le_refl _⟩ (fun r mu2 h2 => ?_)
  obtain ⟨rfl, rfl⟩ := h2
  refine zg_val h2' ?_
  refine zg_istore_n (i := 2) (L2 := [_, _, _, _, _]) dX3_move_6 rfl (by decide) rfl ?_
  refine zg_iload_n (i := 2) dX3_move_7 rfl rfl ?_
  first | with_reducible refine zg_ifN_ne (tgt := 15) dX3_move_8 (by decide) (by omega) (fun c => ?_) (fun c => ?_) | refine zg_if_ne (tgt := 15) dX3_move_8 (by decide) (fun c => ?_) (fun c => ?_)
  · refine zg_iload_n (i := 2) dX3_move_15 rfl rfl ?_
    refine zg_iconst (v := nI 2) dX3_move_16 (by decide) ?_
    first | with_reducible refine zg_icmpN_ne (tgt := 25) dX3_move_17 (by decide) (by omega) (by omega) (fun c2 => ?_) (fun c2 => ?_) | refine zg_icmp_ne (tgt := 25) dX3_move_17 (by decide) (fun c2 => ?_) (fun c2 => ?_)
    · refine zg_iconst (v := nI 0) dX3_move_25 (by decide) ?_
      exact lm_move2 hS mu hp hP (by omega) _ ⟨rfl, rfl, by rw [show qdx dr = 0 by rw [qdx, if_neg c, if_neg c2]]⟩
    · refine zg_bipush (v := nI 11) dX3_move_20 (by decide) ?_
      refine zg_goto (tgt := 26) dX3_move_22 (by decide) ?_
      exact lm_move2 hS mu hp hP (by omega) _ ⟨rfl, rfl, by rw [show qdx dr = 11 by rw [qdx, if_neg c, if_pos c2]]⟩
  · refine zg_iconst (v := nI 1) dX3_move_11 (by decide) ?_
    refine zg_goto (tgt := 26) dX3_move_12 (by decide) ?_
    exact lm_move2 hS mu hp hP (by omega) _ ⟨rfl, rfl, by rw [show qdx dr = 1 by rw [qdx, if_pos c]]⟩
set_option maxRecDepth 20000 in
theorem cm_openStack {S : zS} {m : Nat} (hS : MS S m) (mu : zU) {v : Nat → Int32} {p x y dr ss sl ns s0 s1 s2 : Nat} (hp : p < 4) (hP : PI v (150 + 25 * p) x y dr ss sl ns s0 s1 s2) : zM yX3_openStack cX3_openStack 5 none 3 0 0 [.inr (m + 1), .inl (nI p)] S (zrow mu (m + 1) v) (zPv S (fun mu2 => mu2 = zrow mu (m + 1) (qopen v (150 + 25 * p)))) := by
  obtain ⟨⟨hN, k0, k1, -⟩, r0, -⟩ := id hS
  have hN0 : m < S.1 := by omega
  obtain ⟨t0, t1, t2, hQ, -⟩ := hP.pop1
  obtain ⟨hc, hq, hh, hcl⟩ := hQ.cur
  obtain ⟨z5, a1, a2, a3⟩ := hQ.ns
  have h5 : qpop v (150 + 25 * p) (150 + 25 * p + 5) = nI ns := hQ.2.2.2.2.2.1
  refine zM.ofG (by decide +kernel) (Nat.le_of_ble_eq_true rfl) ?_
  refine zg_aload_n (i := 0) dX3_openStack_0 rfl rfl ?_
  refine zg_iload_n (i := 1) dX3_openStack_1 rfl rfl ?_
  refine zg_callVi (cm_pop hS mu hp hP) dX3_openStack_2 cvX3_pop mlX3_87 rfl (by assumption) (by assumption) rfl (Nat.le_of_ble_eq_true rfl) ⟨by decide, by decide⟩ ⟨Nat.le_refl _, Nat.le_refl _⟩ (fun r mu2 h2 => ?_)
  obtain ⟨rfl, rfl⟩ := h2
  rw [qopen]
  generalize qpopR v (150 + 25 * p) = n
  generalize qpop v (150 + 25 * p) = w at *
  refine zg_istore_n (i := 2) (L2 := [_, _, _, _, _]) dX3_openStack_5 rfl (by decide) rfl ?_
  refine zg_aload_n (i := 0) dX3_openStack_6 rfl rfl ?_
  refine zg_iload_n (i := 1) dX3_openStack_7 rfl rfl ?_
  refine zg_iconst (v := nI 5) dX3_openStack_8 (by decide) ?_
  refine zg_callVi (cm_of hS mu w (p := p) (w := 5) (by omega)) dX3_openStack_9 cvX3_of mlX3_69 rfl (by assumption) (by assumption) rfl (Nat.le_of_ble_eq_true rfl) ⟨by decide, by decide⟩ ⟨Nat.le_refl _, Nat.le_refl _⟩ (fun r mu2 h2 => ?_)
  obtain ⟨rfl, rfl⟩ := h2
  refine zg_val h5 ?_
  refine zg_iconst (v := nI 3) dX3_openStack_12 (by decide) ?_
  first | with_reducible refine zg_icmpN_ne (tgt := 17) dX3_openStack_13 (by decide) (by omega) (by omega) (fun c => ?_) (fun c => ?_) | refine zg_icmp_ne (tgt := 17) dX3_openStack_13 (by decide) (fun c => ?_) (fun c => ?_)
  · have hkle := qclamp_le n (n := PIsc ns t0 t1 t2) (by omega)
    have hopn := (hQ.opn c hkle).1
    rw [qopen1, z5, if_neg c, hq, zn_of hc (by omega), hopn]
    refine zg_aload_n (i := 0) dX3_openStack_17 rfl rfl ?_
    refine zg_iload_n (i := 1) dX3_openStack_18 rfl rfl ?_
    refine zg_callVi (cm_current hS mu hp h5 a1) dX3_openStack_19 cvX3_current mlX3_73 rfl (by assumption) (by assumption) rfl (Nat.le_of_ble_eq_true rfl) ⟨by decide, by decide⟩ ⟨Nat.le_refl _, Nat.le_refl _⟩ (fun r mu2 h2 => ?_)
    obtain ⟨rfl, rfl⟩ := h2
    refine zg_istore_n (i := 3) (L2 := [_, _, _, _, _]) dX3_openStack_22 rfl (by decide) rfl ?_
    refine zg_iload_n (i := 2) dX3_openStack_23 rfl rfl ?_
    refine zg_aload_n (i := 0) dX3_openStack_24 rfl rfl ?_
    refine zg_iload_n (i := 1) dX3_openStack_25 rfl rfl ?_
    refine zg_iload_n (i := 3) dX3_openStack_26 rfl rfl ?_
    refine zg_callVi (cm_of hS mu w (p := p) (w := 5 + ns) (by omega)) dX3_openStack_27 cvX3_of mlX3_69 rfl (by assumption) (by assumption) rfl (Nat.le_of_ble_eq_true rfl) ⟨by decide, by decide⟩ ⟨Nat.le_refl _, Nat.le_refl _⟩ (fun r mu2 h2 => ?_)
    obtain ⟨rfl, rfl⟩ := h2
    refine zg_val (y := nI (PIsc ns t0 t1 t2)) (by rw [← Nat.add_assoc]; exact hc) ?_
    refine zg_callSi (cm_clamp S (zrow mu (m + 1) w) n (n := PIsc ns t0 t1 t2) (by omega)) dX3_openStack_30 ctX3_clamp mlX3_90 rfl rfl (Nat.le_of_ble_eq_true rfl) ⟨by decide, by decide⟩ ⟨Nat.le_refl _, Nat.le_refl _⟩ (fun r mu2 h2 => ?_)
    obtain ⟨rfl, rfl⟩ := h2
    generalize qclamp n (PIsc ns t0 t1 t2) = k at *
    refine zg_istore (L2 := [_, _, _, _, _]) dX3_openStack_33 (by decide) rfl ?_
    refine zg_aload_n (i := 0) dX3_openStack_35 rfl rfl ?_
    refine zg_iload_n (i := 1) dX3_openStack_36 rfl rfl ?_
    refine zg_iload_n (i := 3) dX3_openStack_37 rfl rfl ?_
    refine zg_aload_n (i := 0) dX3_openStack_38 rfl rfl ?_
    refine zg_iload_n (i := 1) dX3_openStack_39 rfl rfl ?_
    refine zg_iload_n (i := 3) dX3_openStack_40 rfl rfl ?_
    refine zg_callVi (cm_of hS mu w (p := p) (w := 5 + ns) (by omega)) dX3_openStack_41 cvX3_of mlX3_69 rfl (by assumption) (by assumption) rfl (Nat.le_of_ble_eq_true rfl) ⟨by decide, by decide⟩ ⟨Nat.le_refl _, Nat.le_refl _⟩ (fun r mu2 h2 => ?_)
    obtain ⟨rfl, rfl⟩ := h2
    refine zg_val (y := nI (PIsc ns t0 t1 t2)) (by rw [← Nat.add_assoc]; exact hc) ?_
    refine zg_iload dX3_openStack_44 rfl ?_
    first | with_reducible refine zg_isubN dX3_openStack_46 (by omega) ?_ | refine zg_isub dX3_openStack_46 ?_
    refine zg_callVv (cm_put hS mu w (p := p) (w := 5 + ns) (by omega) _) dX3_openStack_47 cvX3_put mlX3_80 rfl (by assumption) (by assumption) rfl (Nat.le_of_ble_eq_true rfl) ⟨by decide, by decide⟩ ⟨Nat.le_refl _, Nat.le_refl _⟩ (fun mu2 h2 => ?_)
    subst h2
    refine zg_aload_n (i := 0) dX3_openStack_50 rfl rfl ?_
    refine zg_iload_n (i := 1) dX3_openStack_51 rfl rfl ?_
    refine zg_iload_n (i := 3) dX3_openStack_52 rfl rfl ?_
    refine zg_iconst (v := nI 1) dX3_openStack_53 (by decide) ?_
    first | with_reducible refine zg_iaddN dX3_openStack_54 ?_ | refine zg_iadd dX3_openStack_54 ?_
    refine zg_iload dX3_openStack_55 rfl ?_
    refine zg_callVv (cm_put hS mu _ (p := p) (w := 5 + ns + 1) (by omega) _) dX3_openStack_57 cvX3_put mlX3_80 rfl (by assumption) (by assumption) rfl (Nat.le_of_ble_eq_true rfl) ⟨by decide, by decide⟩ ⟨Nat.le_refl _, Nat.le_refl _⟩ (fun mu2 h2 => ?_)
    subst h2
    refine zg_aload_n (i := 0) dX3_openStack_60 rfl rfl ?_
    refine zg_iload_n (i := 1) dX3_openStack_61 rfl rfl ?_
    refine zg_iconst (v := nI 5) dX3_openStack_62 (by decide) ?_
    refine zg_aload_n (i := 0) dX3_openStack_63 rfl rfl ?_
    refine zg_iload_n (i := 1) dX3_openStack_64 rfl rfl ?_
    refine zg_iconst (v := nI 5) dX3_openStack_65 (by decide) ?_
    refine zg_callVi (cm_of hS mu _ (p := p) (w := 5) (by omega)) dX3_openStack_66 cvX3_of mlX3_69 rfl (by assumption) (by assumption) rfl (Nat.le_of_ble_eq_true rfl) ⟨by decide, by decide⟩ ⟨Nat.le_refl _, Nat.le_refl _⟩ (fun r mu2 h2 => ?_)
    obtain ⟨rfl, rfl⟩ := h2
    refine zg_val (y := nI ns) (by rw [upd_n (by omega), upd_n (by omega)]; exact h5) ?_
    refine zg_iconst (v := nI 1) dX3_openStack_69 (by decide) ?_
    first | with_reducible refine zg_iaddN dX3_openStack_70 ?_ | refine zg_iadd dX3_openStack_70 ?_
    refine zg_callVv (cm_put hS mu _ (p := p) (w := 5) (by omega) _) dX3_openStack_71 cvX3_put mlX3_80 rfl (by assumption) (by assumption) rfl (Nat.le_of_ble_eq_true rfl) ⟨by decide, by decide⟩ ⟨Nat.le_refl _, Nat.le_refl _⟩ (fun mu2 h2 => ?_)
    subst h2
    refine zg_vret dX3_openStack_74 rfl ⟨rfl, rfl, ?_⟩
    show zrow _ _ _ = zrow _ _ _
    rw [show 150 + 25 * p + (5 + ns) = 150 + 25 * p + 5 + ns by omega, show 150 + 25 * p + (5 + ns + 1) = 150 + 25 * p + 6 + ns by omega]
  · refine zg_vret dX3_openStack_16 rfl ⟨rfl, rfl, ?_⟩
    show zrow _ _ _ = zrow _ _ _
    rw [qopen1, z5, if_pos c]
end
section
/-! THE REFERENCE: "}", doubles and swaps -/
/-- i of the values from a on have gone down by l -/
def qmv (w : Nat → Int32) (a l i : Nat) : Nat → Int32 := fun j => if a - l ≤ j ∧ j < a - l + i then w (j + l) else w j
theorem qmv_0 (w : Nat → Int32) (a l : Nat) : qmv w a l 0 = w := by
  funext j
  rw [qmv, if_neg (by omega)]
theorem qmv_1 (w : Nat → Int32) {a l : Nat} (i : Nat) (h : l ≤ a) : upd (qmv w a l i) (a + i - l) (w (a + i)) = qmv w a l (i + 1) := by
  funext j
  by_cases hj : j = a + i - l
  · subst hj
    rw [upd_s, qmv, if_pos (by omega), show a + i - l + l = a + i by omega]
  · rw [upd_n hj]
    unfold qmv
    by_cases h2 : a - l ≤ j ∧ j < a - l + i
    · rw [if_pos h2, if_pos (by omega)]
    · rw [if_neg h2, if_neg (by omega)]
theorem qmv_at (w : Nat → Int32) (a l i : Nat) (h : l ≤ a) : qmv w a l i (a + i) = w (a + i) := by
  rw [qmv]
  by_cases h2 : a - l ≤ a + i ∧ a + i < a - l + i
  · omega
  · rw [if_neg h2]
def qzr (w : Nat → Int32) (a i : Nat) : Nat → Int32 := fun j => if a ≤ j ∧ j < a + i then 0 else w j
theorem qzr_0 (w : Nat → Int32) (a : Nat) : qzr w a 0 = w := by
  funext j
  rw [qzr, if_neg (by omega)]
theorem qzr_1 (w : Nat → Int32) (a i : Nat) : upd (qzr w a i) (a + i) 0 = qzr w a (i + 1) := by
  funext j
  by_cases hj : j = a + i
  · subst hj
    rw [upd_s, qzr, if_pos (by omega)]
  · rw [upd_n hj]
    unfold qzr
    by_cases h2 : a ≤ j ∧ j < a + i
    · rw [if_pos h2, if_pos (by omega)]
    · rw [if_neg h2, if_neg (by omega)]
theorem qshift_eq (w : Nat → Int32) {e k l : Nat} (h : k + l ≤ e) : qzr (qmv w (e - k) l k) (e - l) l = qshift w e k l := by
  funext j
  unfold qzr qmv qshift
  by_cases h1 : e - k - l ≤ j ∧ j < e - l
  · rw [if_neg (by omega), if_pos (by omega), if_pos h1]
  · rw [if_neg h1]
    by_cases h2 : e - l ≤ j ∧ j < e
    · rw [if_pos (by omega), if_pos h2]
    · rw [if_neg (by omega), if_neg (by omega), if_neg h2]
set_option maxRecDepth 20000 in
theorem lm_close1 {S : zS} {m : Nat} (hS : MS S m) (mu : zU) (w : Nat → Int32) {p c k l e : Nat} {n : Int32} (hp : p < 4) (he : e ≤ 25) (hk : 9 + k + l ≤ e) (Ph : Option zV → zS → zU → Prop)
    (hx : zG RX3 "closeStack" cX3_closeStack 8 none (zroom 3 0 0) 0 0 Ph 99 [some (.inr (m + 1)), some (.inl (nI p)), some (.inl n), some (.inl (nI c)), some (.inl (nI k)), some (.inl (nI l)), some (.inl (nI e)), some (.inl (nI e))] [] S (zrow mu (m + 1) (qmv w (150 + 25 * p + e - k) l k)) 0 0) :
    ∀ (t i : Nat), i + t = k → zG RX3 "closeStack" cX3_closeStack 8 none (zroom 3 0 0) 0 0 Ph 69 [some (.inr (m + 1)), some (.inl (nI p)), some (.inl n), some (.inl (nI c)), some (.inl (nI k)), some (.inl (nI l)), some (.inl (nI e)), some (.inl (nI (e - k + i)))] [] S (zrow mu (m + 1) (qmv w (150 + 25 * p + e - k) l i)) 0 0 := by
  obtain ⟨⟨hN, k0, k1, -⟩, r0, -⟩ := id hS
  have hN0 : m < S.1 := by omega
  intro t
  induction t with
  | zero =>
    intro i hi
    obtain rfl : i = k := by omega
    refine zg_iload dX3_closeStack_69 rfl ?_
    refine zg_iload dX3_closeStack_71 rfl ?_
    first | with_reducible refine zg_icmpN_ge (tgt := 99) dX3_closeStack_73 (by decide) (by omega) (by omega) (fun c2 => ?_) (fun c2 => ?_) | refine zg_icmp_ge (tgt := 99) dX3_closeStack_73 (by decide) (fun c2 => ?_) (fun c2 => ?_)
    · rw [show e - i + i = e by omega]; exact hx
    · omega
  | succ t ih =>
    intro i hi
    refine zg_iload dX3_closeStack_69 rfl ?_
    refine zg_iload dX3_closeStack_71 rfl ?_
    first | with_reducible refine zg_icmpN_ge (tgt := 99) dX3_closeStack_73 (by decide) (by omega) (by omega) (fun c2 => ?_) (fun c2 => ?_) | refine zg_icmp_ge (tgt := 99) dX3_closeStack_73 (by decide) (fun c2 => ?_) (fun c2 => ?_)
    · omega
    · refine zg_aload_n (i := 0) dX3_closeStack_76 rfl rfl ?_
      refine zg_iload_n (i := 1) dX3_closeStack_77 rfl rfl ?_
      refine zg_iload dX3_closeStack_78 rfl ?_
      refine zg_iload dX3_closeStack_80 rfl ?_
      first | with_reducible refine zg_isubN dX3_closeStack_82 (by omega) ?_ | refine zg_isub dX3_closeStack_82 ?_
      refine zg_aload_n (i := 0) dX3_closeStack_83 rfl rfl ?_
      refine zg_iload_n (i := 1) dX3_closeStack_84 rfl rfl ?_
      refine zg_iload dX3_closeStack_85 rfl ?_
      refine zg_callVi (cm_of hS mu _ (p := p) (w := e - k + i) (by omega)) dX3_closeStack_87 cvX3_of mlX3_69 rfl (by assumption) (by assumption) rfl (Nat.le_of_ble_eq_true rfl) ⟨by decide, by decide⟩ ⟨Nat.le_refl _, Nat.le_refl _⟩ (fun r mu2 h2 => ?_)
      obtain ⟨rfl, rfl⟩ := h2
      refine zg_val (y := w (150 + 25 * p + e - k + i)) (by rw [show 150 + 25 * p + (e - k + i) = 150 + 25 * p + e - k + i by omega, qmv_at _ _ _ _ (by omega)]) ?_
      refine zg_callVv (cm_put hS mu _ (p := p) (w := e - k + i - l) (by omega) _) dX3_closeStack_90 cvX3_put mlX3_80 rfl (by assumption) (by assumption) rfl (Nat.le_of_ble_eq_true rfl) ⟨by decide, by decide⟩ ⟨Nat.le_refl _, Nat.le_refl _⟩ (fun mu2 h2 => ?_)
      subst h2
      rw [show 150 + 25 * p + (e - k + i - l) = 150 + 25 * p + e - k + i - l by omega, qmv_1 w i (by omega)]
      refine zg_iinc1 (L2 := [_, _, _, _, _, _, _, _]) dX3_closeStack_93 (by decide) rfl rfl ?_
      refine zg_goto (tgt := 69) dX3_closeStack_96 (by decide) ?_
      rw [Nat.add_assoc (e - k) i 1]
      exact ih (i + 1) (by omega)
set_option maxRecDepth 20000 in
theorem lm_close2 {S : zS} {m : Nat} (hS : MS S m) (mu : zU) (w : Nat → Int32) {p c k l e : Nat} {n : Int32} (hp : p < 4) (he : e ≤ 25) (hk : l ≤ e) (Ph : Option zV → zS → zU → Prop)
    (hx : zG RX3 "closeStack" cX3_closeStack 8 none (zroom 3 0 0) 0 0 Ph 127 [some (.inr (m + 1)), some (.inl (nI p)), some (.inl n), some (.inl (nI c)), some (.inl (nI k)), some (.inl (nI l)), some (.inl (nI e)), some (.inl (nI e))] [] S (zrow mu (m + 1) (qzr w (150 + 25 * p + e - l) l)) 0 0) :
    ∀ (t i : Nat), i + t = l → zG RX3 "closeStack" cX3_closeStack 8 none (zroom 3 0 0) 0 0 Ph 106 [some (.inr (m + 1)), some (.inl (nI p)), some (.inl n), some (.inl (nI c)), some (.inl (nI k)), some (.inl (nI l)), some (.inl (nI e)), some (.inl (nI (e - l + i)))] [] S (zrow mu (m + 1) (qzr w (150 + 25 * p + e - l) i)) 0 0 := by
  obtain ⟨⟨hN, k0, k1, -⟩, r0, -⟩ := id hS
  have hN0 : m < S.1 := by omega
  intro t
  induction t with
  | zero =>
    intro i hi
    obtain rfl : i = l := by omega
    refine zg_iload dX3_closeStack_106 rfl ?_
    refine zg_iload dX3_closeStack_108 rfl ?_
    first | with_reducible refine zg_icmpN_ge (tgt := 127) dX3_closeStack_110 (by decide) (by omega) (by omega) (fun c2 => ?_) (fun c2 => ?_) | refine zg_icmp_ge (tgt := 127) dX3_closeStack_110 (by decide) (fun c2 => ?_) (fun c2 => ?_)
    · rw [show e - i + i = e by omega]; exact hx
    · omega
  | succ t ih =>
    intro i hi
    refine zg_iload dX3_closeStack_106 rfl ?_
    refine zg_iload dX3_closeStack_108 rfl ?_
    first | with_reducible refine zg_icmpN_ge (tgt := 127) dX3_closeStack_110 (by decide) (by omega) (by omega) (fun c2 => ?_) (fun c2 => ?_) | refine zg_icmp_ge (tgt := 127) dX3_closeStack_110 (by decide) (fun c2 => ?_) (fun c2 => ?_)
    · omega
    · refine zg_aload_n (i := 0) dX3_closeStack_113 rfl rfl ?_
      refine zg_iload_n (i := 1) dX3_closeStack_114 rfl rfl ?_
      refine zg_iload dX3_closeStack_115 rfl ?_
      refine zg_iconst (v := nI 0) dX3_closeStack_117 (by decide) ?_
      refine zg_callVv (cm_put hS mu _ (p := p) (w := e - l + i) (by omega) _) dX3_closeStack_118 cvX3_put mlX3_80 rfl (by assumption) (by assumption) rfl (Nat.le_of_ble_eq_true rfl) ⟨by decide, by decide⟩ ⟨Nat.le_refl _, Nat.le_refl _⟩ (fun mu2 h2 => ?_)
      subst h2
      rw [show 150 + 25 * p + (e - l + i) = 150 + 25 * p + e - l + i by omega, n0, qzr_1]
      refine zg_iinc1 (L2 := [_, _, _, _, _, _, _, _]) dX3_closeStack_121 (by decide) rfl rfl ?_
      refine zg_goto (tgt := 106) dX3_closeStack_124 (by decide) ?_
      rw [Nat.add_assoc (e - l) i 1]
      exact ih (i + 1) (by omega)
set_option maxRecDepth 20000 in
theorem cm_closeStack {S : zS} {m : Nat} (hS : MS S m) (mu : zU) {v : Nat → Int32} {p x y dr ss sl ns s0 s1 s2 : Nat} (hp : p < 4) (hP : PI v (150 + 25 * p) x y dr ss sl ns s0 s1 s2) : zM yX3_closeStack cX3_closeStack 8 none 3 0 0 [.inr (m + 1), .inl (nI p)] S (zrow mu (m + 1) v) (zPv S (fun mu2 => mu2 = zrow mu (m + 1) (qclose v (150 + 25 * p)))) := by
  obtain ⟨⟨hN, k0, k1, -⟩, r0, -⟩ := id hS
  have hN0 : m < S.1 := by omega
  have h5v : v (150 + 25 * p + 5) = nI ns := hP.2.2.2.2.2.1
  obtain ⟨z5v, -, -, -⟩ := hP.ns
  obtain ⟨t0, t1, t2, hQ, -⟩ := hP.pop1
  obtain ⟨hc, hq, hh, hcl⟩ := hQ.cur
  obtain ⟨z5, a1, a2, a3⟩ := hQ.ns
  have h5 : qpop v (150 + 25 * p) (150 + 25 * p + 5) = nI ns := hQ.2.2.2.2.2.1
  refine zM.ofG (by decide +kernel) (Nat.le_of_ble_eq_true rfl) ?_
  refine zg_aload_n (i := 0) dX3_closeStack_0 rfl rfl ?_
  refine zg_iload_n (i := 1) dX3_closeStack_1 rfl rfl ?_
  refine zg_iconst (v := nI 5) dX3_closeStack_2 (by decide) ?_
  refine zg_callVi (cm_of hS mu v (p := p) (w := 5) (by omega)) dX3_closeStack_3 cvX3_of mlX3_69 rfl (by assumption) (by assumption) rfl (Nat.le_of_ble_eq_true rfl) ⟨by decide, by decide⟩ ⟨Nat.le_refl _, Nat.le_refl _⟩ (fun r mu2 h2 => ?_)
  obtain ⟨rfl, rfl⟩ := h2
  refine zg_val h5v ?_
  refine zg_iconst (v := nI 1) dX3_closeStack_6 (by decide) ?_
  first | with_reducible refine zg_icmpN_ne (tgt := 17) dX3_closeStack_7 (by decide) (by omega) (by omega) (fun c => ?_) (fun c => ?_) | refine zg_icmp_ne (tgt := 17) dX3_closeStack_7 (by decide) (fun c => ?_) (fun c => ?_)
  · refine zg_aload_n (i := 0) dX3_closeStack_17 rfl rfl ?_
    refine zg_iload_n (i := 1) dX3_closeStack_18 rfl rfl ?_
    refine zg_callVi (cm_pop hS mu hp hP) dX3_closeStack_19 cvX3_pop mlX3_87 rfl (by assumption) (by assumption) rfl (Nat.le_of_ble_eq_true rfl) ⟨by decide, by decide⟩ ⟨Nat.le_refl _, Nat.le_refl _⟩ (fun r mu2 h2 => ?_)
    obtain ⟨rfl, rfl⟩ := h2
    rw [qclose, z5v, if_neg c]
    generalize qpopR v (150 + 25 * p) = n
    generalize qpop v (150 + 25 * p) = w at *
    have hkle := qclamp_le n (n := PIsc ns t0 t1 t2) (by omega)
    have hcls := (hQ.cls c hkle).1
    rw [qclose1, hq, zn_of hc (by omega), hcls]
    refine zg_istore_n (i := 2) (L2 := [_, _, _, _, _, _, _, _]) dX3_closeStack_22 rfl (by decide) rfl ?_
    refine zg_aload_n (i := 0) dX3_closeStack_23 rfl rfl ?_
    refine zg_iload_n (i := 1) dX3_closeStack_24 rfl rfl ?_
    refine zg_callVi (cm_current hS mu hp h5 a1) dX3_closeStack_25 cvX3_current mlX3_73 rfl (by assumption) (by assumption) rfl (Nat.le_of_ble_eq_true rfl) ⟨by decide, by decide⟩ ⟨Nat.le_refl _, Nat.le_refl _⟩ (fun r mu2 h2 => ?_)
    obtain ⟨rfl, rfl⟩ := h2
    refine zg_istore_n (i := 3) (L2 := [_, _, _, _, _, _, _, _]) dX3_closeStack_28 rfl (by decide) rfl ?_
    refine zg_iload_n (i := 2) dX3_closeStack_29 rfl rfl ?_
    refine zg_aload_n (i := 0) dX3_closeStack_30 rfl rfl ?_
    refine zg_iload_n (i := 1) dX3_closeStack_31 rfl rfl ?_
    refine zg_iload_n (i := 3) dX3_closeStack_32 rfl rfl ?_
    refine zg_callVi (cm_of hS mu w (p := p) (w := 5 + ns) (by omega)) dX3_closeStack_33 cvX3_of mlX3_69 rfl (by assumption) (by assumption) rfl (Nat.le_of_ble_eq_true rfl) ⟨by decide, by decide⟩ ⟨Nat.le_refl _, Nat.le_refl _⟩ (fun r mu2 h2 => ?_)
    obtain ⟨rfl, rfl⟩ := h2
    refine zg_val (y := nI (PIsc ns t0 t1 t2)) (by rw [← Nat.add_assoc]; exact hc) ?_
    refine zg_callSi (cm_clamp S (zrow mu (m + 1) w) n (n := PIsc ns t0 t1 t2) (by omega)) dX3_closeStack_36 ctX3_clamp mlX3_90 rfl rfl (Nat.le_of_ble_eq_true rfl) ⟨by decide, by decide⟩ ⟨Nat.le_refl _, Nat.le_refl _⟩ (fun r mu2 h2 => ?_)
    obtain ⟨rfl, rfl⟩ := h2
    generalize qclamp n (PIsc ns t0 t1 t2) = k at *
    refine zg_istore (L2 := [_, _, _, _, _, _, _, _]) dX3_closeStack_39 (by decide) rfl ?_
    refine zg_aload_n (i := 0) dX3_closeStack_41 rfl rfl ?_
    refine zg_iload_n (i := 1) dX3_closeStack_42 rfl rfl ?_
    refine zg_iload_n (i := 3) dX3_closeStack_43 rfl rfl ?_
    refine zg_callVi (cm_of hS mu w (p := p) (w := 5 + ns) (by omega)) dX3_closeStack_44 cvX3_of mlX3_69 rfl (by assumption) (by assumption) rfl (Nat.le_of_ble_eq_true rfl) ⟨by decide, by decide⟩ ⟨Nat.le_refl _, Nat.le_refl _⟩ (fun r mu2 h2 => ?_)
    obtain ⟨rfl, rfl⟩ := h2
    refine zg_val (y := nI (PIsc ns t0 t1 t2)) (by rw [← Nat.add_assoc]; exact hc) ?_
    refine zg_iload dX3_closeStack_47 rfl ?_
    first | with_reducible refine zg_isubN dX3_closeStack_49 (by omega) ?_ | refine zg_isub dX3_closeStack_49 ?_
    refine zg_istore (L2 := [_, _, _, _, _, _, _, _]) dX3_closeStack_50 (by decide) rfl ?_
    refine zg_bipush (v := nI 9) dX3_closeStack_52 (by decide) ?_
    refine zg_aload_n (i := 0) dX3_closeStack_54 rfl rfl ?_
    refine zg_iload_n (i := 1) dX3_closeStack_55 rfl rfl ?_
    refine zg_callVi (cm_heldBy hS mu hp hQ) dX3_closeStack_56 cvX3_heldBy mlX3_77 rfl (by assumption) (by assumption) rfl (Nat.le_of_ble_eq_true rfl) ⟨by decide, by decide⟩ ⟨Nat.le_refl _, Nat.le_refl _⟩ (fun r mu2 h2 => ?_)
    obtain ⟨rfl, rfl⟩ := h2
    first | with_reducible refine zg_iaddN dX3_closeStack_59 ?_ | refine zg_iadd dX3_closeStack_59 ?_
    refine zg_istore (L2 := [_, _, _, _, _, _, _, _]) dX3_closeStack_60 (by decide) rfl ?_
    refine zg_iload dX3_closeStack_62 rfl ?_
    refine zg_iload dX3_closeStack_64 rfl ?_
    first | with_reducible refine zg_isubN dX3_closeStack_66 (by omega) ?_ | refine zg_isub dX3_closeStack_66 ?_
    refine zg_istore (L2 := [_, _, _, _, _, _, _, _]) dX3_closeStack_67 (by decide) rfl ?_
    refine zg_mu (mu2 := zrow mu (m + 1) (qmv w (150 + 25 * p + (9 + (t0 + t1 + t2)) - k) (PIsc ns t0 t1 t2 - k) 0)) (by rw [qmv_0]) ?_
    refine lm_close1 hS mu w (p := p) (c := 5 + ns) (k := k) (l := PIsc ns t0 t1 t2 - k) (e := 9 + (t0 + t1 + t2)) (n := n) hp (by omega) (by omega) _ ?_ k 0 (by omega)
    refine zg_iload dX3_closeStack_99 rfl ?_
    refine zg_iload dX3_closeStack_101 rfl ?_
    first | with_reducible refine zg_isubN dX3_closeStack_103 (by omega) ?_ | refine zg_isub dX3_closeStack_103 ?_
    refine zg_istore (L2 := [_, _, _, _, _, _, _, _]) dX3_closeStack_104 (by decide) rfl ?_
    refine zg_mu (mu2 := zrow mu (m + 1) (qzr (qmv w (150 + 25 * p + (9 + (t0 + t1 + t2)) - k) (PIsc ns t0 t1 t2 - k) k) (150 + 25 * p + (9 + (t0 + t1 + t2)) - (PIsc ns t0 t1 t2 - k)) 0)) (by rw [qzr_0]) ?_
    refine lm_close2 hS mu (qmv w (150 + 25 * p + (9 + (t0 + t1 + t2)) - k) (PIsc ns t0 t1 t2 - k) k) (p := p) (c := 5 + ns) (k := k) (l := PIsc ns t0 t1 t2 - k) (e := 9 + (t0 + t1 + t2)) (n := n) hp (by omega) (by omega) _ ?_ (PIsc ns t0 t1 t2 - k) 0 (by omega)
    rw [qshift_eq w (by omega), show 150 + 25 * p + (9 + (t0 + t1 + t2)) = 150 + 25 * p + 9 + (t0 + t1 + t2) by omega]
    have hsh : ∀ i, i < 150 + 25 * p + 9 → qshift w (150 + 25 * p + 9 + (t0 + t1 + t2)) k (PIsc ns t0 t1 t2 - k) i = w i := by
      intro i hi
      rw [qshift, if_neg (by omega), if_neg (by omega)]
    generalize qshift w (150 + 25 * p + 9 + (t0 + t1 + t2)) k (PIsc ns t0 t1 t2 - k) = u at *
    refine zg_aload_n (i := 0) dX3_closeStack_127 rfl rfl ?_
    refine zg_iload_n (i := 1) dX3_closeStack_128 rfl rfl ?_
    refine zg_iload_n (i := 3) dX3_closeStack_129 rfl rfl ?_
    refine zg_iconst (v := nI 0) dX3_closeStack_130 (by decide) ?_
    refine zg_callVv (cm_put hS mu _ (p := p) (w := 5 + ns) (by omega) _) dX3_closeStack_131 cvX3_put mlX3_80 rfl (by assumption) (by assumption) rfl (Nat.le_of_ble_eq_true rfl) ⟨by decide, by decide⟩ ⟨Nat.le_refl _, Nat.le_refl _⟩ (fun mu2 h2 => ?_)
    subst h2
    refine zg_aload_n (i := 0) dX3_closeStack_134 rfl rfl ?_
    refine zg_iload_n (i := 1) dX3_closeStack_135 rfl rfl ?_
    refine zg_iload_n (i := 3) dX3_closeStack_136 rfl rfl ?_
    refine zg_iconst (v := nI 1) dX3_closeStack_137 (by decide) ?_
    first | with_reducible refine zg_isubN dX3_closeStack_138 (by omega) ?_ | refine zg_isub dX3_closeStack_138 ?_
    refine zg_aload_n (i := 0) dX3_closeStack_139 rfl rfl ?_
    refine zg_iload_n (i := 1) dX3_closeStack_140 rfl rfl ?_
    refine zg_iload_n (i := 3) dX3_closeStack_141 rfl rfl ?_
    refine zg_iconst (v := nI 1) dX3_closeStack_142 (by decide) ?_
    first | with_reducible refine zg_isubN dX3_closeStack_143 (by omega) ?_ | refine zg_isub dX3_closeStack_143 ?_
    refine zg_callVi (cm_of hS mu _ (p := p) (w := 5 + ns - 1) (by omega)) dX3_closeStack_144 cvX3_of mlX3_69 rfl (by assumption) (by assumption) rfl (Nat.le_of_ble_eq_true rfl) ⟨by decide, by decide⟩ ⟨Nat.le_refl _, Nat.le_refl _⟩ (fun r mu2 h2 => ?_)
    obtain ⟨rfl, rfl⟩ := h2
    refine zg_val (y := nI (if ns = 2 then t0 else t1)) (by
      rw [upd_n (by omega), hsh _ (by omega)]
      rcases (show ns = 2 ∨ ns = 3 by omega) with rfl | rfl
      · exact hQ.2.2.2.2.2.2.1
      · exact hQ.2.2.2.2.2.2.2.1) ?_
    refine zg_iload dX3_closeStack_147 rfl ?_
    first | with_reducible refine zg_iaddN dX3_closeStack_149 ?_ | refine zg_iadd dX3_closeStack_149 ?_
    refine zg_callVv (cm_put hS mu _ (p := p) (w := 5 + ns - 1) (by omega) _) dX3_closeStack_150 cvX3_put mlX3_80 rfl (by assumption) (by assumption) rfl (Nat.le_of_ble_eq_true rfl) ⟨by decide, by decide⟩ ⟨Nat.le_refl _, Nat.le_refl _⟩ (fun mu2 h2 => ?_)
    subst h2
    refine zg_aload_n (i := 0) dX3_closeStack_153 rfl rfl ?_
    refine zg_iload_n (i := 1) dX3_closeStack_154 rfl rfl ?_
    refine zg_iconst (v := nI 5) dX3_closeStack_155 (by decide) ?_
    refine zg_aload_n (i := 0) dX3_closeStack_156 rfl rfl ?_
    refine zg_iload_n (i := 1) dX3_closeStack_157 rfl rfl ?_
    refine zg_iconst (v := nI 5) dX3_closeStack_158 (by decide) ?_
    refine zg_callVi (cm_of hS mu _ (p := p) (w := 5) (by omega)) dX3_closeStack_159 cvX3_of mlX3_69 rfl (by assumption) (by assumption) rfl (Nat.le_of_ble_eq_true rfl) ⟨by decide, by decide⟩ ⟨Nat.le_refl _, Nat.le_refl _⟩ (fun r mu2 h2 => ?_)
    obtain ⟨rfl, rfl⟩ := h2
    refine zg_val (y := nI ns) (by rw [upd_n (by omega), upd_n (by omega), hsh _ (by omega)]; exact h5) ?_
    refine zg_iconst (v := nI 1) dX3_closeStack_162 (by decide) ?_
    first | with_reducible refine zg_isubN dX3_closeStack_163 (by omega) ?_ | refine zg_isub dX3_closeStack_163 ?_
    refine zg_callVv (cm_put hS mu _ (p := p) (w := 5) (by omega) _) dX3_closeStack_164 cvX3_put mlX3_80 rfl (by assumption) (by assumption) rfl (Nat.le_of_ble_eq_true rfl) ⟨by decide, by decide⟩ ⟨Nat.le_refl _, Nat.le_refl _⟩ (fun mu2 h2 => ?_)
    subst h2
    refine zg_vret dX3_closeStack_167 rfl ⟨rfl, rfl, ?_⟩
    show zrow _ _ _ = zrow _ _ _
    rw [show 150 + 25 * p + (5 + ns) = 150 + 25 * p + 5 + ns by omega, show 150 + 25 * p + (5 + ns - 1) = 150 + 25 * p + 4 + ns by omega, n0]
  · refine zg_aload_n (i := 0) dX3_closeStack_10 rfl rfl ?_
    refine zg_iload_n (i := 1) dX3_closeStack_11 rfl rfl ?_
    refine zg_iconst (v := nI 2) dX3_closeStack_12 (by decide) ?_
    refine zg_callVv (cm_turn hS mu hp hP (n := 2) (by omega)) dX3_closeStack_13 cvX3_turn mlX3_93 rfl (by assumption) (by assumption) rfl (Nat.le_of_ble_eq_true rfl) ⟨by decide, by decide⟩ ⟨Nat.le_refl _, Nat.le_refl _⟩ (fun mu2 h2 => ?_)
    subst h2
    refine zg_vret dX3_closeStack_16 rfl ⟨rfl, rfl, ?_⟩
    show zrow _ _ _ = zrow _ _ _
    rw [qclose, z5v, if_pos c]
set_option maxRecDepth 20000 in
theorem cm_swapTop {S : zS} {m : Nat} (hS : MS S m) (mu : zU) {v : Nat → Int32} {p x y dr ss sl ns s0 s1 s2 : Nat} (hp : p < 4) (hP : PI v (150 + 25 * p) x y dr ss sl ns s0 s1 s2) : zM yX3_swapTop cX3_swapTop 4 none 3 0 0 [.inr (m + 1), .inl (nI p)] S (zrow mu (m + 1) v) (zPv S (fun mu2 => mu2 = zrow mu (m + 1) (qswap v (150 + 25 * p)))) := by
  obtain ⟨⟨hN, k0, k1, -⟩, r0, -⟩ := id hS
  have hN0 : m < S.1 := by omega
  obtain ⟨t0, t1, t2, hQ, -⟩ := hP.pop1
  obtain ⟨u0, u1, u2, hU, -⟩ := hQ.pop1
  obtain ⟨ss2, w0, w1, w2, hW⟩ := hU.push1 (qpopR v (150 + 25 * p))
  refine zM.ofG (by decide +kernel) (Nat.le_of_ble_eq_true rfl) ?_
  refine zg_aload_n (i := 0) dX3_swapTop_0 rfl rfl ?_
  refine zg_iload_n (i := 1) dX3_swapTop_1 rfl rfl ?_
  refine zg_callVi (cm_pop hS mu hp hP) dX3_swapTop_2 cvX3_pop mlX3_87 rfl (by assumption) (by assumption) rfl (Nat.le_of_ble_eq_true rfl) ⟨by decide, by decide⟩ ⟨Nat.le_refl _, Nat.le_refl _⟩ (fun r mu2 h2 => ?_)
  obtain ⟨rfl, rfl⟩ := h2
  refine zg_istore_n (i := 2) (L2 := [_, _, _, _]) dX3_swapTop_5 rfl (by decide) rfl ?_
  refine zg_aload_n (i := 0) dX3_swapTop_6 rfl rfl ?_
  refine zg_iload_n (i := 1) dX3_swapTop_7 rfl rfl ?_
  refine zg_callVi (cm_pop hS mu hp hQ) dX3_swapTop_8 cvX3_pop mlX3_87 rfl (by assumption) (by assumption) rfl (Nat.le_of_ble_eq_true rfl) ⟨by decide, by decide⟩ ⟨Nat.le_refl _, Nat.le_refl _⟩ (fun r mu2 h2 => ?_)
  obtain ⟨rfl, rfl⟩ := h2
  refine zg_istore_n (i := 3) (L2 := [_, _, _, _]) dX3_swapTop_11 rfl (by decide) rfl ?_
  refine zg_aload_n (i := 0) dX3_swapTop_12 rfl rfl ?_
  refine zg_iload_n (i := 1) dX3_swapTop_13 rfl rfl ?_
  refine zg_iload_n (i := 2) dX3_swapTop_14 rfl rfl ?_
  refine zg_callVv (cm_push hS mu hp hU (qpopR v (150 + 25 * p))) dX3_swapTop_15 cvX3_push mlX3_97 rfl (by assumption) (by assumption) rfl (Nat.le_of_ble_eq_true rfl) ⟨by decide, by decide⟩ ⟨Nat.le_refl _, Nat.le_refl _⟩ (fun mu2 h2 => ?_)
  subst h2
  refine zg_aload_n (i := 0) dX3_swapTop_18 rfl rfl ?_
  refine zg_iload_n (i := 1) dX3_swapTop_19 rfl rfl ?_
  refine zg_iconst (v := nI 3) dX3_swapTop_20 (by decide) ?_
  refine zg_callVi (cm_of hS mu _ (p := p) (w := 3) (by omega)) dX3_swapTop_21 cvX3_of mlX3_69 rfl (by assumption) (by assumption) rfl (Nat.le_of_ble_eq_true rfl) ⟨by decide, by decide⟩ ⟨Nat.le_refl _, Nat.le_refl _⟩ (fun r mu2 h2 => ?_)
  obtain ⟨rfl, rfl⟩ := h2
  refine zg_if_ne (tgt := 33) dX3_swapTop_24 (by decide) (fun c => ?_) (fun c => ?_)
  · refine zg_vret dX3_swapTop_33 rfl ⟨rfl, rfl, ?_⟩
    show zrow _ _ _ = zrow _ _ _
    rw [qswap, qpush2, if_neg c]
  · refine zg_aload_n (i := 0) dX3_swapTop_27 rfl rfl ?_
    refine zg_iload_n (i := 1) dX3_swapTop_28 rfl rfl ?_
    refine zg_iload_n (i := 3) dX3_swapTop_29 rfl rfl ?_
    refine zg_callVv (cm_push hS mu hp hW _) dX3_swapTop_30 cvX3_push mlX3_97 rfl (by assumption) (by assumption) rfl (Nat.le_of_ble_eq_true rfl) ⟨by decide, by decide⟩ ⟨Nat.le_refl _, Nat.le_refl _⟩ (fun mu2 h2 => ?_)
    subst h2
    refine zg_vret dX3_swapTop_33 rfl ⟨rfl, rfl, ?_⟩
    show zrow _ _ _ = zrow _ _ _
    rw [qswap, qpush2, if_pos c]
set_option maxRecDepth 20000 in
theorem cm_duplicate {S : zS} {m : Nat} (hS : MS S m) (mu : zU) {v : Nat → Int32} {p x y dr ss sl ns s0 s1 s2 : Nat} (hp : p < 4) (hP : PI v (150 + 25 * p) x y dr ss sl ns s0 s1 s2) : zM yX3_duplicate cX3_duplicate 3 none 3 0 0 [.inr (m + 1), .inl (nI p)] S (zrow mu (m + 1) v) (zPv S (fun mu2 => mu2 = zrow mu (m + 1) (qdup v (150 + 25 * p)))) := by
  obtain ⟨⟨hN, k0, k1, -⟩, r0, -⟩ := id hS
  have hN0 : m < S.1 := by omega
  obtain ⟨t0, t1, t2, hQ, -⟩ := hP.pop1
  obtain ⟨ss2, w0, w1, w2, hW⟩ := hQ.push1 (qpopR v (150 + 25 * p))
  refine zM.ofG (by decide +kernel) (Nat.le_of_ble_eq_true rfl) ?_
  refine zg_aload_n (i := 0) dX3_duplicate_0 rfl rfl ?_
  refine zg_iload_n (i := 1) dX3_duplicate_1 rfl rfl ?_
  refine zg_callVi (cm_pop hS mu hp hP) dX3_duplicate_2 cvX3_pop mlX3_87 rfl (by assumption) (by assumption) rfl (Nat.le_of_ble_eq_true rfl) ⟨by decide, by decide⟩ ⟨Nat.le_refl _, Nat.le_refl _⟩ (fun r mu2 h2 => ?_)
  obtain ⟨rfl, rfl⟩ := h2
  refine zg_istore_n (i := 2) (L2 := [_, _, _]) dX3_duplicate_5 rfl (by decide) rfl ?_
  refine zg_aload_n (i := 0) dX3_duplicate_6 rfl rfl ?_
  refine zg_iload_n (i := 1) dX3_duplicate_7 rfl rfl ?_
  refine zg_iload_n (i := 2) dX3_duplicate_8 rfl rfl ?_
  refine zg_callVv (cm_push hS mu hp hQ (qpopR v (150 + 25 * p))) dX3_duplicate_9 cvX3_push mlX3_97 rfl (by assumption) (by assumption) rfl (Nat.le_of_ble_eq_true rfl) ⟨by decide, by decide⟩ ⟨Nat.le_refl _, Nat.le_refl _⟩ (fun mu2 h2 => ?_)
  subst h2
  refine zg_aload_n (i := 0) dX3_duplicate_12 rfl rfl ?_
  refine zg_iload_n (i := 1) dX3_duplicate_13 rfl rfl ?_
  refine zg_iconst (v := nI 3) dX3_duplicate_14 (by decide) ?_
  refine zg_callVi (cm_of hS mu _ (p := p) (w := 3) (by omega)) dX3_duplicate_15 cvX3_of mlX3_69 rfl (by assumption) (by assumption) rfl (Nat.le_of_ble_eq_true rfl) ⟨by decide, by decide⟩ ⟨Nat.le_refl _, Nat.le_refl _⟩ (fun r mu2 h2 => ?_)
  obtain ⟨rfl, rfl⟩ := h2
  refine zg_if_ne (tgt := 27) dX3_duplicate_18 (by decide) (fun c => ?_) (fun c => ?_)
  · refine zg_vret dX3_duplicate_27 rfl ⟨rfl, rfl, ?_⟩
    show zrow _ _ _ = zrow _ _ _
    rw [qdup, qpush2, if_neg c]
  · refine zg_aload_n (i := 0) dX3_duplicate_21 rfl rfl ?_
    refine zg_iload_n (i := 1) dX3_duplicate_22 rfl rfl ?_
    refine zg_iload_n (i := 2) dX3_duplicate_23 rfl rfl ?_
    refine zg_callVv (cm_push hS mu hp hW _) dX3_duplicate_24 cvX3_push mlX3_97 rfl (by assumption) (by assumption) rfl (Nat.le_of_ble_eq_true rfl) ⟨by decide, by decide⟩ ⟨Nat.le_refl _, Nat.le_refl _⟩ (fun mu2 h2 => ?_)
    subst h2
    refine zg_vret dX3_duplicate_27 rfl ⟨rfl, rfl, ?_⟩
    show zrow _ _ _ = zrow _ _ _
    rw [qdup, qpush2, if_pos c]
end
section
/-! the branches of the instructions, by their codes -/
theorem qx_103 (v : Nat → Int32) (p : Nat) : qexec v p (nI 103) = qfetch v (150 + 25 * p) := by rw [qexec, if_pos rfl]
theorem qx_112 (v : Nat → Int32) (p : Nat) : qexec v p (nI 112) = qstore v (150 + 25 * p) := by rw [qexec, if_neg (by decide), if_pos rfl]
theorem qx_46 (v : Nat → Int32) (p : Nat) : qexec v p (nI 46) = qout (qpop v (150 + 25 * p)) (qpopR v (150 + 25 * p)) := by rw [qexec, if_neg (by decide), if_neg (by decide), if_pos rfl]
theorem qx_126 (v : Nat → Int32) (p : Nat) : qexec v p (nI 126) = qin v (150 + 25 * p) := by rw [qexec, if_neg (by decide), if_neg (by decide), if_neg (by decide), if_pos rfl]
theorem qx_116 (v : Nat → Int32) (p : Nat) : qexec v p (nI 116) = qsplit v p := by rw [qexec, if_neg (by decide), if_neg (by decide), if_neg (by decide), if_neg (by decide), if_pos rfl]
theorem qx_perf (v : Nat → Int32) (p : Nat) {c : Int32} (h : c ≠ nI 103 ∧ c ≠ nI 112 ∧ c ≠ nI 46 ∧ c ≠ nI 126 ∧ c ≠ nI 116) : qexec v p c = qperf v (150 + 25 * p) c := by rw [qexec, if_neg h.1, if_neg h.2.1, if_neg h.2.2.1, if_neg h.2.2.2.1, if_neg h.2.2.2.2]
theorem qp_dig (v : Nat → Int32) (o : Nat) {c : Int32} (h : nI 48 ≤ c ∧ c ≤ nI 57) : qperf v o c = qpush v o (c - nI 48) := by rw [qperf, if_pos h]
theorem qp_43 (v : Nat → Int32) (o : Nat) : qperf v o (nI 43) = qbin v o (nI 43) := by rw [qperf, if_neg (by decide), if_pos (by decide)]
theorem qp_45 (v : Nat → Int32) (o : Nat) : qperf v o (nI 45) = qbin v o (nI 45) := by rw [qperf, if_neg (by decide), if_pos (by decide)]
theorem qp_42 (v : Nat → Int32) (o : Nat) : qperf v o (nI 42) = qbin v o (nI 42) := by rw [qperf, if_neg (by decide), if_pos (by decide)]
theorem qp_47 (v : Nat → Int32) (o : Nat) : qperf v o (nI 47) = qbin v o (nI 47) := by rw [qperf, if_neg (by decide), if_pos (by decide)]
theorem qp_37 (v : Nat → Int32) (o : Nat) : qperf v o (nI 37) = qbin v o (nI 37) := by rw [qperf, if_neg (by decide), if_pos (by decide)]
theorem qp_96 (v : Nat → Int32) (o : Nat) : qperf v o (nI 96) = qbin v o (nI 96) := by rw [qperf, if_neg (by decide), if_pos (by decide)]
theorem qp_33 (v : Nat → Int32) (o : Nat) : qperf v o (nI 33) = qpush (qpop v o) o (if qpopR v o = 0 then nI 1 else nI 0) := by rw [qperf, if_neg (by decide), if_neg (by decide), if_pos rfl]
theorem qp_58 (v : Nat → Int32) (o : Nat) : qperf v o (nI 58) = qdup v o := by rw [qperf, if_neg (by decide), if_neg (by decide), if_neg (by decide), if_pos rfl]
theorem qp_92 (v : Nat → Int32) (o : Nat) : qperf v o (nI 92) = qswap v o := by rw [qperf, if_neg (by decide), if_neg (by decide), if_neg (by decide), if_neg (by decide), if_pos rfl]
theorem qp_36 (v : Nat → Int32) (o : Nat) : qperf v o (nI 36) = qpop v o := by rw [qperf, if_neg (by decide), if_neg (by decide), if_neg (by decide), if_neg (by decide), if_neg (by decide), if_pos rfl]
theorem qp_123 (v : Nat → Int32) (o : Nat) : qperf v o (nI 123) = qopen v o := by rw [qperf, if_neg (by decide), if_neg (by decide), if_neg (by decide), if_neg (by decide), if_neg (by decide), if_neg (by decide), if_pos rfl]
theorem qp_125 (v : Nat → Int32) (o : Nat) : qperf v o (nI 125) = qclose v o := by rw [qperf, if_neg (by decide), if_neg (by decide), if_neg (by decide), if_neg (by decide), if_neg (by decide), if_neg (by decide), if_neg (by decide), if_pos rfl]
theorem qp_119 (v : Nat → Int32) (o : Nat) : qperf v o (nI 119) = upd (qpop v o) (o + 4) (nI (qclamp (qpopR v o) 9)) := by rw [qperf, if_neg (by decide), if_neg (by decide), if_neg (by decide), if_neg (by decide), if_neg (by decide), if_neg (by decide), if_neg (by decide), if_neg (by decide), if_pos rfl]
theorem qp_64 (v : Nat → Int32) (o : Nat) : qperf v o (nI 64) = upd v (o + 3) (nI 1) := by rw [qperf, if_neg (by decide), if_neg (by decide), if_neg (by decide), if_neg (by decide), if_neg (by decide), if_neg (by decide), if_neg (by decide), if_neg (by decide), if_neg (by decide), if_pos rfl]
theorem qp_steer (v : Nat → Int32) (o : Nat) {c : Int32} (hd : ¬ (nI 48 ≤ c ∧ c ≤ nI 57)) (h6 : ¬ (c = nI 43 ∨ c = nI 45 ∨ c = nI 42 ∨ c = nI 47 ∨ c = nI 37 ∨ c = nI 96)) (h : c ≠ nI 33 ∧ c ≠ nI 58 ∧ c ≠ nI 92 ∧ c ≠ nI 36 ∧ c ≠ nI 123 ∧ c ≠ nI 125 ∧ c ≠ nI 119 ∧ c ≠ nI 64) : qperf v o c = qsteer v o c := by rw [qperf, if_neg hd, if_neg h6, if_neg h.1, if_neg h.2.1, if_neg h.2.2.1, if_neg h.2.2.2.1, if_neg h.2.2.2.2.1, if_neg h.2.2.2.2.2.1, if_neg h.2.2.2.2.2.2.1, if_neg h.2.2.2.2.2.2.2]
theorem qs_62 (v : Nat → Int32) (o : Nat) : qsteer v o (nI 62) = upd v (o + 2) (nI 0) := by rw [qsteer, if_pos rfl]
theorem qs_118 (v : Nat → Int32) (o : Nat) : qsteer v o (nI 118) = upd v (o + 2) (nI 1) := by rw [qsteer, if_neg (by decide), if_pos rfl]
theorem qs_60 (v : Nat → Int32) (o : Nat) : qsteer v o (nI 60) = upd v (o + 2) (nI 2) := by rw [qsteer, if_neg (by decide), if_neg (by decide), if_pos rfl]
theorem qs_94 (v : Nat → Int32) (o : Nat) : qsteer v o (nI 94) = upd v (o + 2) (nI 3) := by rw [qsteer, if_neg (by decide), if_neg (by decide), if_neg (by decide), if_pos rfl]
theorem qs_95 (v : Nat → Int32) (o : Nat) : qsteer v o (nI 95) = upd (qpop v o) (o + 2) (if qpopR v o = 0 then nI 0 else nI 2) := by rw [qsteer, if_neg (by decide), if_neg (by decide), if_neg (by decide), if_neg (by decide), if_pos rfl]
theorem qs_124 (v : Nat → Int32) (o : Nat) : qsteer v o (nI 124) = upd (qpop v o) (o + 2) (if qpopR v o = 0 then nI 1 else nI 3) := by rw [qsteer, if_neg (by decide), if_neg (by decide), if_neg (by decide), if_neg (by decide), if_neg (by decide), if_pos rfl]
theorem qs_91 (v : Nat → Int32) (o : Nat) : qsteer v o (nI 91) = qturn v o 3 := by rw [qsteer, if_neg (by decide), if_neg (by decide), if_neg (by decide), if_neg (by decide), if_neg (by decide), if_neg (by decide), if_pos rfl]
theorem qs_93 (v : Nat → Int32) (o : Nat) : qsteer v o (nI 93) = qturn v o 1 := by rw [qsteer, if_neg (by decide), if_neg (by decide), if_neg (by decide), if_neg (by decide), if_neg (by decide), if_neg (by decide), if_neg (by decide), if_pos rfl]
theorem qs_114 (v : Nat → Int32) (o : Nat) : qsteer v o (nI 114) = qturn v o 2 := by rw [qsteer, if_neg (by decide), if_neg (by decide), if_neg (by decide), if_neg (by decide), if_neg (by decide), if_neg (by decide), if_neg (by decide), if_neg (by decide), if_pos rfl]
theorem qs_35 (v : Nat → Int32) (o : Nat) : qsteer v o (nI 35) = qmove v o := by rw [qsteer, if_neg (by decide), if_neg (by decide), if_neg (by decide), if_neg (by decide), if_neg (by decide), if_neg (by decide), if_neg (by decide), if_neg (by decide), if_neg (by decide), if_pos rfl]
theorem qs_none (v : Nat → Int32) (o : Nat) {c : Int32} (h : c ≠ nI 62 ∧ c ≠ nI 118 ∧ c ≠ nI 60 ∧ c ≠ nI 94 ∧ c ≠ nI 95 ∧ c ≠ nI 124 ∧ c ≠ nI 91 ∧ c ≠ nI 93 ∧ c ≠ nI 114 ∧ c ≠ nI 35) : qsteer v o c = v := by rw [qsteer, if_neg h.1, if_neg h.2.1, if_neg h.2.2.1, if_neg h.2.2.2.1, if_neg h.2.2.2.2.1, if_neg h.2.2.2.2.2.1, if_neg h.2.2.2.2.2.2.1, if_neg h.2.2.2.2.2.2.2.1, if_neg h.2.2.2.2.2.2.2.2.1, if_neg h.2.2.2.2.2.2.2.2.2]
theorem qx_43 (v : Nat → Int32) (p : Nat) : qexec v p (nI 43) = qbin v (150 + 25 * p) (nI 43) := by rw [qx_perf v p ⟨by decide, by decide, by decide, by decide, by decide⟩, qp_43]
theorem qx_45 (v : Nat → Int32) (p : Nat) : qexec v p (nI 45) = qbin v (150 + 25 * p) (nI 45) := by rw [qx_perf v p ⟨by decide, by decide, by decide, by decide, by decide⟩, qp_45]
theorem qx_42 (v : Nat → Int32) (p : Nat) : qexec v p (nI 42) = qbin v (150 + 25 * p) (nI 42) := by rw [qx_perf v p ⟨by decide, by decide, by decide, by decide, by decide⟩, qp_42]
theorem qx_47 (v : Nat → Int32) (p : Nat) : qexec v p (nI 47) = qbin v (150 + 25 * p) (nI 47) := by rw [qx_perf v p ⟨by decide, by decide, by decide, by decide, by decide⟩, qp_47]
theorem qx_37 (v : Nat → Int32) (p : Nat) : qexec v p (nI 37) = qbin v (150 + 25 * p) (nI 37) := by rw [qx_perf v p ⟨by decide, by decide, by decide, by decide, by decide⟩, qp_37]
theorem qx_96 (v : Nat → Int32) (p : Nat) : qexec v p (nI 96) = qbin v (150 + 25 * p) (nI 96) := by rw [qx_perf v p ⟨by decide, by decide, by decide, by decide, by decide⟩, qp_96]
theorem qx_33 (v : Nat → Int32) (p : Nat) : qexec v p (nI 33) = qpush (qpop v (150 + 25 * p)) (150 + 25 * p) (if qpopR v (150 + 25 * p) = 0 then nI 1 else nI 0) := by rw [qx_perf v p ⟨by decide, by decide, by decide, by decide, by decide⟩, qp_33]
theorem qx_58 (v : Nat → Int32) (p : Nat) : qexec v p (nI 58) = qdup v (150 + 25 * p) := by rw [qx_perf v p ⟨by decide, by decide, by decide, by decide, by decide⟩, qp_58]
theorem qx_92 (v : Nat → Int32) (p : Nat) : qexec v p (nI 92) = qswap v (150 + 25 * p) := by rw [qx_perf v p ⟨by decide, by decide, by decide, by decide, by decide⟩, qp_92]
theorem qx_36 (v : Nat → Int32) (p : Nat) : qexec v p (nI 36) = qpop v (150 + 25 * p) := by rw [qx_perf v p ⟨by decide, by decide, by decide, by decide, by decide⟩, qp_36]
theorem qx_123 (v : Nat → Int32) (p : Nat) : qexec v p (nI 123) = qopen v (150 + 25 * p) := by rw [qx_perf v p ⟨by decide, by decide, by decide, by decide, by decide⟩, qp_123]
theorem qx_125 (v : Nat → Int32) (p : Nat) : qexec v p (nI 125) = qclose v (150 + 25 * p) := by rw [qx_perf v p ⟨by decide, by decide, by decide, by decide, by decide⟩, qp_125]
theorem qx_119 (v : Nat → Int32) (p : Nat) : qexec v p (nI 119) = upd (qpop v (150 + 25 * p)) (150 + 25 * p + 4) (nI (qclamp (qpopR v (150 + 25 * p)) 9)) := by rw [qx_perf v p ⟨by decide, by decide, by decide, by decide, by decide⟩, qp_119]
theorem qx_64 (v : Nat → Int32) (p : Nat) : qexec v p (nI 64) = upd v (150 + 25 * p + 3) (nI 1) := by rw [qx_perf v p ⟨by decide, by decide, by decide, by decide, by decide⟩, qp_64]
theorem qx_62 (v : Nat → Int32) (p : Nat) : qexec v p (nI 62) = upd v (150 + 25 * p + 2) (nI 0) := by rw [qx_perf v p ⟨by decide, by decide, by decide, by decide, by decide⟩, qp_steer v _ (by decide) (by decide) ⟨by decide, by decide, by decide, by decide, by decide, by decide, by decide, by decide⟩, qs_62]
theorem qx_118 (v : Nat → Int32) (p : Nat) : qexec v p (nI 118) = upd v (150 + 25 * p + 2) (nI 1) := by rw [qx_perf v p ⟨by decide, by decide, by decide, by decide, by decide⟩, qp_steer v _ (by decide) (by decide) ⟨by decide, by decide, by decide, by decide, by decide, by decide, by decide, by decide⟩, qs_118]
theorem qx_60 (v : Nat → Int32) (p : Nat) : qexec v p (nI 60) = upd v (150 + 25 * p + 2) (nI 2) := by rw [qx_perf v p ⟨by decide, by decide, by decide, by decide, by decide⟩, qp_steer v _ (by decide) (by decide) ⟨by decide, by decide, by decide, by decide, by decide, by decide, by decide, by decide⟩, qs_60]
theorem qx_94 (v : Nat → Int32) (p : Nat) : qexec v p (nI 94) = upd v (150 + 25 * p + 2) (nI 3) := by rw [qx_perf v p ⟨by decide, by decide, by decide, by decide, by decide⟩, qp_steer v _ (by decide) (by decide) ⟨by decide, by decide, by decide, by decide, by decide, by decide, by decide, by decide⟩, qs_94]
theorem qx_95 (v : Nat → Int32) (p : Nat) : qexec v p (nI 95) = upd (qpop v (150 + 25 * p)) (150 + 25 * p + 2) (if qpopR v (150 + 25 * p) = 0 then nI 0 else nI 2) := by rw [qx_perf v p ⟨by decide, by decide, by decide, by decide, by decide⟩, qp_steer v _ (by decide) (by decide) ⟨by decide, by decide, by decide, by decide, by decide, by decide, by decide, by decide⟩, qs_95]
theorem qx_124 (v : Nat → Int32) (p : Nat) : qexec v p (nI 124) = upd (qpop v (150 + 25 * p)) (150 + 25 * p + 2) (if qpopR v (150 + 25 * p) = 0 then nI 1 else nI 3) := by rw [qx_perf v p ⟨by decide, by decide, by decide, by decide, by decide⟩, qp_steer v _ (by decide) (by decide) ⟨by decide, by decide, by decide, by decide, by decide, by decide, by decide, by decide⟩, qs_124]
theorem qx_91 (v : Nat → Int32) (p : Nat) : qexec v p (nI 91) = qturn v (150 + 25 * p) 3 := by rw [qx_perf v p ⟨by decide, by decide, by decide, by decide, by decide⟩, qp_steer v _ (by decide) (by decide) ⟨by decide, by decide, by decide, by decide, by decide, by decide, by decide, by decide⟩, qs_91]
theorem qx_93 (v : Nat → Int32) (p : Nat) : qexec v p (nI 93) = qturn v (150 + 25 * p) 1 := by rw [qx_perf v p ⟨by decide, by decide, by decide, by decide, by decide⟩, qp_steer v _ (by decide) (by decide) ⟨by decide, by decide, by decide, by decide, by decide, by decide, by decide, by decide⟩, qs_93]
theorem qx_114 (v : Nat → Int32) (p : Nat) : qexec v p (nI 114) = qturn v (150 + 25 * p) 2 := by rw [qx_perf v p ⟨by decide, by decide, by decide, by decide, by decide⟩, qp_steer v _ (by decide) (by decide) ⟨by decide, by decide, by decide, by decide, by decide, by decide, by decide, by decide⟩, qs_114]
theorem qx_35 (v : Nat → Int32) (p : Nat) : qexec v p (nI 35) = qmove v (150 + 25 * p) := by rw [qx_perf v p ⟨by decide, by decide, by decide, by decide, by decide⟩, qp_steer v _ (by decide) (by decide) ⟨by decide, by decide, by decide, by decide, by decide, by decide, by decide, by decide⟩, qs_35]
theorem qo_43 (a b : Int32) : qop (nI 43) a b = a + b := by rw [qop, if_pos rfl]
theorem qo_45 (a b : Int32) : qop (nI 45) a b = a - b := by rw [qop, if_neg (by decide), if_pos rfl]
theorem qo_42 (a b : Int32) : qop (nI 42) a b = a * b := by rw [qop, if_neg (by decide), if_neg (by decide), if_pos rfl]
theorem qo_47 (a b : Int32) : qop (nI 47) a b = (if b = 0 then nI 0 else a / b) := by rw [qop, if_neg (by decide), if_neg (by decide), if_neg (by decide), if_pos rfl]
theorem qo_37 (a b : Int32) : qop (nI 37) a b = (if b = 0 then nI 0 else a - a / b * b) := by rw [qop, if_neg (by decide), if_neg (by decide), if_neg (by decide), if_neg (by decide), if_pos rfl]
theorem qo_96 (a b : Int32) : qop (nI 96) a b = (if b < a then nI 1 else nI 0) := by rw [qop, if_neg (by decide), if_neg (by decide), if_neg (by decide), if_neg (by decide), if_neg (by decide)]
theorem zoff_def : ∀ (ps : List (Int × Int)) (d k : Int), (∀ q ∈ ps, q.1 ≠ k) → Op.lookupswitch.offset ps d k = d
  | [], _, _, _ => rfl
  | (a, f) :: t, d, k, h => by
    rw [Op.lookupswitch.offset_cons, if_neg (h (a, f) List.mem_cons_self)]
    exact zoff_def t d k (fun q hq => h q (List.mem_cons_of_mem _ hq))
theorem ne_toInt {c : Int32} {a : Nat} (ha : a < 2 ^ 31) (h : ¬ c = nI a) : (a : Int) ≠ c.toInt := by
  intro e
  exact h (Int32.toInt_inj.1 (by rw [nI_toInt ha]; exact e.symm))
end
section
/-! THE REFERENCE: operate, store, fetch, output, input, split -/
set_option maxRecDepth 20000 in
theorem cm_operate (S : zS) (mu : zU) (c a b : Int32) (hc : c = nI 43 ∨ c = nI 45 ∨ c = nI 42 ∨ c = nI 47 ∨ c = nI 37 ∨ c = nI 96) : zM yX3_operate cX3_operate 3 (some .int) 0 0 0 [.inl c, .inl a, .inl b] S mu (zPi S (fun r mu2 => mu2 = mu ∧ r = qop c a b)) := by
  refine zM.ofG (by decide +kernel) (Nat.le_of_ble_eq_true rfl) ?_
  refine zg_iload_n (i := 0) dX3_operate_0 rfl rfl ?_
  rcases hc with rfl | rfl | rfl | rfl | rfl | rfl
  · refine zg_tableIn (off := 59) (tgt := 60) dX3_operate_1 (by decide) (by decide) rfl (by decide) ?_
    refine zg_iload_n (i := 1) dX3_operate_60 rfl rfl ?_
    refine zg_iload_n (i := 2) dX3_operate_61 rfl rfl ?_
    first | with_reducible refine zg_iaddN dX3_operate_62 ?_ | refine zg_iadd dX3_operate_62 ?_
    exact zg_iret dX3_operate_63 rfl ⟨_, rfl, rfl, ⟨rfl, by rw [qo_43]⟩⟩
  · refine zg_tableIn (off := 63) (tgt := 64) dX3_operate_1 (by decide) (by decide) rfl (by decide) ?_
    refine zg_iload_n (i := 1) dX3_operate_64 rfl rfl ?_
    refine zg_iload_n (i := 2) dX3_operate_65 rfl rfl ?_
    first | with_reducible refine zg_isubN dX3_operate_66 (by omega) ?_ | refine zg_isub dX3_operate_66 ?_
    exact zg_iret dX3_operate_67 rfl ⟨_, rfl, rfl, ⟨rfl, by rw [qo_45]⟩⟩
  · refine zg_tableIn (off := 67) (tgt := 68) dX3_operate_1 (by decide) (by decide) rfl (by decide) ?_
    refine zg_iload_n (i := 1) dX3_operate_68 rfl rfl ?_
    refine zg_iload_n (i := 2) dX3_operate_69 rfl rfl ?_
    first | with_reducible refine zg_imulN dX3_operate_70 ?_ | refine zg_imul dX3_operate_70 ?_
    exact zg_iret dX3_operate_71 rfl ⟨_, rfl, rfl, ⟨rfl, by rw [qo_42]⟩⟩
  · refine zg_tableIn (off := 71) (tgt := 72) dX3_operate_1 (by decide) (by decide) rfl (by decide) ?_
    refine zg_iload_n (i := 2) dX3_operate_72 rfl rfl ?_
    refine zg_if_ne (tgt := 80) dX3_operate_73 (by decide) (fun h => ?_) (fun h => ?_)
    · refine zg_iload_n (i := 1) dX3_operate_80 rfl rfl ?_
      refine zg_iload_n (i := 2) dX3_operate_81 rfl rfl ?_
      refine zg_idiv dX3_operate_82 (by assumption) ?_
      exact zg_iret dX3_operate_83 rfl ⟨_, rfl, rfl, ⟨rfl, by rw [qo_47, if_neg h]⟩⟩
    · refine zg_iconst (v := nI 0) dX3_operate_76 (by decide) ?_
      refine zg_goto (tgt := 83) dX3_operate_77 (by decide) ?_
      exact zg_iret dX3_operate_83 rfl ⟨_, rfl, rfl, ⟨rfl, by rw [qo_47, if_pos h]⟩⟩
  · refine zg_tableIn (off := 83) (tgt := 84) dX3_operate_1 (by decide) (by decide) rfl (by decide) ?_
    refine zg_iload_n (i := 2) dX3_operate_84 rfl rfl ?_
    refine zg_if_ne (tgt := 92) dX3_operate_85 (by decide) (fun h => ?_) (fun h => ?_)
    · refine zg_iload_n (i := 1) dX3_operate_92 rfl rfl ?_
      refine zg_iload_n (i := 2) dX3_operate_93 rfl rfl ?_
      first | with_reducible refine zg_iremN dX3_operate_94 (by omega) (by omega) (by omega) ?_ | refine zg_irem dX3_operate_94 (by assumption) ?_
      exact zg_iret dX3_operate_95 rfl ⟨_, rfl, rfl, ⟨rfl, by rw [qo_37, if_neg h]⟩⟩
    · refine zg_iconst (v := nI 0) dX3_operate_88 (by decide) ?_
      refine zg_goto (tgt := 95) dX3_operate_89 (by decide) ?_
      exact zg_iret dX3_operate_95 rfl ⟨_, rfl, rfl, ⟨rfl, by rw [qo_37, if_pos h]⟩⟩
  · refine zg_tableOut (tgt := 96) dX3_operate_1 (by decide) (by decide) ?_
    refine zg_iload_n (i := 1) dX3_operate_96 rfl rfl ?_
    refine zg_iload_n (i := 2) dX3_operate_97 rfl rfl ?_
    refine zg_icmp_le (tgt := 105) dX3_operate_98 (by decide) (fun h => ?_) (fun h => ?_)
    · refine zg_iconst (v := nI 0) dX3_operate_105 (by decide) ?_
      exact zg_iret dX3_operate_106 rfl ⟨_, rfl, rfl, ⟨rfl, by rw [qo_96, if_neg (Int32.not_lt.mpr h)]⟩⟩
    · refine zg_iconst (v := nI 1) dX3_operate_101 (by decide) ?_
      refine zg_goto (tgt := 106) dX3_operate_102 (by decide) ?_
      exact zg_iret dX3_operate_106 rfl ⟨_, rfl, rfl, ⟨rfl, by rw [qo_96, if_pos (Int32.not_le.mp h)]⟩⟩
theorem qcell_lt (x y : Int32) : 72 ≤ qcell x y ∧ qcell x y < 144 := by
  have h1 := qmod_lt x (n := 12) (Or.inr rfl)
  have h2 := qmod_lt y (n := 6) (Or.inl rfl)
  rw [qcell]
  omega
set_option maxRecDepth 20000 in
theorem cm_store {S : zS} {m : Nat} (hS : MS S m) (mu : zU) {v : Nat → Int32} {p x y dr ss sl ns s0 s1 s2 : Nat} (hp : p < 4) (hP : PI v (150 + 25 * p) x y dr ss sl ns s0 s1 s2) : zM yX3_store cX3_store 5 none 3 0 0 [.inr (m + 1), .inl (nI p)] S (zrow mu (m + 1) v) (zPv S (fun mu2 => mu2 = zrow mu (m + 1) (qstore v (150 + 25 * p)))) := by
  obtain ⟨⟨hN, k0, k1, -⟩, r0, -⟩ := id hS
  have hN0 : m < S.1 := by omega
  have hN1 : m + 1 < S.1 := by omega
  obtain ⟨t0, t1, t2, hQ, -⟩ := hP.pop1
  obtain ⟨u0, u1, u2, hU, -⟩ := hQ.pop1
  refine zM.ofG (by decide +kernel) (Nat.le_of_ble_eq_true rfl) ?_
  refine zg_aload_n (i := 0) dX3_store_0 rfl rfl ?_
  refine zg_iload_n (i := 1) dX3_store_1 rfl rfl ?_
  refine zg_callVi (cm_pop hS mu hp hP) dX3_store_2 cvX3_pop mlX3_87 rfl (by assumption) (by assumption) rfl (Nat.le_of_ble_eq_true rfl) ⟨by decide, by decide⟩ ⟨Nat.le_refl _, Nat.le_refl _⟩ (fun r mu2 h2 => ?_)
  obtain ⟨rfl, rfl⟩ := h2
  refine zg_istore_n (i := 2) (L2 := [_, _, _, _, _]) dX3_store_5 rfl (by decide) rfl ?_
  refine zg_aload_n (i := 0) dX3_store_6 rfl rfl ?_
  refine zg_iload_n (i := 1) dX3_store_7 rfl rfl ?_
  refine zg_callVi (cm_pop hS mu hp hQ) dX3_store_8 cvX3_pop mlX3_87 rfl (by assumption) (by assumption) rfl (Nat.le_of_ble_eq_true rfl) ⟨by decide, by decide⟩ ⟨Nat.le_refl _, Nat.le_refl _⟩ (fun r mu2 h2 => ?_)
  obtain ⟨rfl, rfl⟩ := h2
  refine zg_istore_n (i := 3) (L2 := [_, _, _, _, _]) dX3_store_11 rfl (by decide) rfl ?_
  refine zg_aload_n (i := 0) dX3_store_12 rfl rfl ?_
  refine zg_iload_n (i := 1) dX3_store_13 rfl rfl ?_
  refine zg_callVi (cm_pop hS mu hp hU) dX3_store_14 cvX3_pop mlX3_87 rfl (by assumption) (by assumption) rfl (Nat.le_of_ble_eq_true rfl) ⟨by decide, by decide⟩ ⟨Nat.le_refl _, Nat.le_refl _⟩ (fun r mu2 h2 => ?_)
  obtain ⟨rfl, rfl⟩ := h2
  rw [qstore]
  generalize qpop (qpop (qpop v (150 + 25 * p)) (150 + 25 * p)) (150 + 25 * p) = w
  generalize qpopR (qpop (qpop v (150 + 25 * p)) (150 + 25 * p)) (150 + 25 * p) = a
  generalize qpopR (qpop v (150 + 25 * p)) (150 + 25 * p) = xx
  generalize qpopR v (150 + 25 * p) = yy
  refine zg_istore (L2 := [_, _, _, _, _]) dX3_store_17 (by decide) rfl ?_
  refine zg_iload dX3_store_19 rfl ?_
  refine zg_bipush (v := nI 32) dX3_store_21 (by decide) ?_
  refine zg_bipush (v := nI 126) dX3_store_23 (by decide) ?_
  refine zg_callSi (cm_in S (zrow mu (m + 1) w) a (nI 32) (nI 126)) dX3_store_25 ctX3_in mlX3_44 rfl rfl (Nat.le_of_ble_eq_true rfl) ⟨by decide, by decide⟩ ⟨Nat.le_refl _, Nat.le_refl _⟩ (fun r mu2 h2 => ?_)
  obtain ⟨rfl, rfl⟩ := h2
  by_cases h : nI 32 ≤ a ∧ a ≤ nI 126
  · rw [if_pos h, qstore3, if_pos h]
    first | with_reducible refine zg_ifN_eq (tgt := 43) dX3_store_28 (by decide) (by omega) (fun c => ?_) (fun c => ?_) | refine zg_if_eq (tgt := 43) dX3_store_28 (by decide) (fun c => ?_) (fun c => ?_)
    · exact absurd c (by decide)
    · refine zg_aload_n (i := 0) dX3_store_31 rfl rfl ?_
      refine zg_getR dX3_store_32 flX3_7 (by decide) (by assumption) (by assumption) (by assumption) ?_
      refine zg_iload_n (i := 3) dX3_store_35 rfl rfl ?_
      refine zg_iload_n (i := 2) dX3_store_36 rfl rfl ?_
      refine zg_callSi (cm_cell S (zrow mu (m + 1) w) xx yy) dX3_store_37 ctX3_cell mlX3_104 rfl rfl (Nat.le_of_ble_eq_true rfl) ⟨by decide, by decide⟩ ⟨Nat.le_refl _, Nat.le_refl _⟩ (fun r mu2 h2 => ?_)
      obtain ⟨rfl, rfl⟩ := h2
      have hcl := qcell_lt xx yy
      refine zg_iload dX3_store_40 rfl ?_
      first | with_reducible refine zg_iastR dX3_store_42 (by assumption) (by assumption) rfl (by omega) (by decide) ?_ | refine zg_iast dX3_store_42 (by assumption) (by assumption) rfl (by omega) (by decide) ?_
      exact zg_vret dX3_store_43 rfl ⟨rfl, rfl, rfl⟩
  · rw [if_neg h, qstore3, if_neg h]
    first | with_reducible refine zg_ifN_eq (tgt := 43) dX3_store_28 (by decide) (by omega) (fun c => ?_) (fun c => ?_) | refine zg_if_eq (tgt := 43) dX3_store_28 (by decide) (fun c => ?_) (fun c => ?_)
    · exact zg_vret dX3_store_43 rfl ⟨rfl, rfl, rfl⟩
    · exact absurd rfl c
set_option maxRecDepth 20000 in
theorem cm_fetch {S : zS} {m : Nat} (hS : MS S m) (mu : zU) {v : Nat → Int32} {p x y dr ss sl ns s0 s1 s2 : Nat} (hp : p < 4) (hP : PI v (150 + 25 * p) x y dr ss sl ns s0 s1 s2) : zM yX3_fetch cX3_fetch 4 none 3 0 0 [.inr (m + 1), .inl (nI p)] S (zrow mu (m + 1) v) (zPv S (fun mu2 => mu2 = zrow mu (m + 1) (qfetch v (150 + 25 * p)))) := by
  obtain ⟨⟨hN, k0, k1, -⟩, r0, -⟩ := id hS
  have hN0 : m < S.1 := by omega
  have hN1 : m + 1 < S.1 := by omega
  obtain ⟨t0, t1, t2, hQ, -⟩ := hP.pop1
  obtain ⟨u0, u1, u2, hU, -⟩ := hQ.pop1
  refine zM.ofG (by decide +kernel) (Nat.le_of_ble_eq_true rfl) ?_
  refine zg_aload_n (i := 0) dX3_fetch_0 rfl rfl ?_
  refine zg_iload_n (i := 1) dX3_fetch_1 rfl rfl ?_
  refine zg_callVi (cm_pop hS mu hp hP) dX3_fetch_2 cvX3_pop mlX3_87 rfl (by assumption) (by assumption) rfl (Nat.le_of_ble_eq_true rfl) ⟨by decide, by decide⟩ ⟨Nat.le_refl _, Nat.le_refl _⟩ (fun r mu2 h2 => ?_)
  obtain ⟨rfl, rfl⟩ := h2
  refine zg_istore_n (i := 2) (L2 := [_, _, _, _]) dX3_fetch_5 rfl (by decide) rfl ?_
  refine zg_aload_n (i := 0) dX3_fetch_6 rfl rfl ?_
  refine zg_iload_n (i := 1) dX3_fetch_7 rfl rfl ?_
  refine zg_callVi (cm_pop hS mu hp hQ) dX3_fetch_8 cvX3_pop mlX3_87 rfl (by assumption) (by assumption) rfl (Nat.le_of_ble_eq_true rfl) ⟨by decide, by decide⟩ ⟨Nat.le_refl _, Nat.le_refl _⟩ (fun r mu2 h2 => ?_)
  obtain ⟨rfl, rfl⟩ := h2
  rw [qfetch]
  generalize qpop (qpop v (150 + 25 * p)) (150 + 25 * p) = w at *
  generalize qpopR (qpop v (150 + 25 * p)) (150 + 25 * p) = xx
  generalize qpopR v (150 + 25 * p) = yy
  refine zg_istore_n (i := 3) (L2 := [_, _, _, _]) dX3_fetch_11 rfl (by decide) rfl ?_
  refine zg_aload_n (i := 0) dX3_fetch_12 rfl rfl ?_
  refine zg_iload_n (i := 1) dX3_fetch_13 rfl rfl ?_
  refine zg_aload_n (i := 0) dX3_fetch_14 rfl rfl ?_
  refine zg_getR dX3_fetch_15 flX3_7 (by decide) (by assumption) (by assumption) (by assumption) ?_
  refine zg_iload_n (i := 3) dX3_fetch_18 rfl rfl ?_
  refine zg_iload_n (i := 2) dX3_fetch_19 rfl rfl ?_
  refine zg_callSi (cm_cell S (zrow mu (m + 1) w) xx yy) dX3_fetch_20 ctX3_cell mlX3_104 rfl rfl (Nat.le_of_ble_eq_true rfl) ⟨by decide, by decide⟩ ⟨Nat.le_refl _, Nat.le_refl _⟩ (fun r mu2 h2 => ?_)
  obtain ⟨rfl, rfl⟩ := h2
  have hcl := qcell_lt xx yy
  first | with_reducible refine zg_ialdR dX3_fetch_23 (by assumption) (by assumption) rfl (by omega) (by decide) ?_ | refine zg_iald dX3_fetch_23 (by assumption) (by assumption) rfl (by omega) (by decide) ?_
  refine zg_callVv (cm_push hS mu hp hU _) dX3_fetch_24 cvX3_push mlX3_97 rfl (by assumption) (by assumption) rfl (Nat.le_of_ble_eq_true rfl) ⟨by decide, by decide⟩ ⟨Nat.le_refl _, Nat.le_refl _⟩ (fun mu2 h2 => ?_)
  subst h2
  exact zg_vret dX3_fetch_27 rfl ⟨rfl, rfl, rfl⟩
set_option maxRecDepth 20000 in
theorem lm_out61 {S : zS} {m : Nat} (hS : MS S m) (mu : zU) {w : Nat → Int32} {n : Nat} {x : Int32} {l2 : Option zV} (hn : n < 20) (hw : w 267 = nI n) (Ph : Option zV → zS → zU → Prop) (hx : Ph none S (zrow mu (m + 1) (qout2 w x))) : zG RX3 "output" cX3_output 3 none (zroom 0 0 0) 0 0 Ph 61 [some (.inr (m + 1)), some (.inl x), l2] [] S (zrow mu (m + 1) w) 0 0 := by
  obtain ⟨⟨hN, k0, k1, -⟩, r0, -⟩ := id hS
  have hN0 : m < S.1 := by omega
  have hN1 : m + 1 < S.1 := by omega
  rw [qout2, zn_of hw (by omega)] at hx
  refine zg_aload_n (i := 0) dX3_output_61 rfl rfl ?_
  refine zg_getR dX3_output_62 flX3_7 (by decide) (by assumption) (by assumption) (by assumption) ?_
  refine zg_sipush (v := nI 267) dX3_output_65 (by decide) ?_
  refine zg_dup2 dX3_output_68 ?_
  first | with_reducible refine zg_ialdR dX3_output_69 (by assumption) (by assumption) rfl (by omega) (by decide) ?_ | refine zg_iald dX3_output_69 (by assumption) (by assumption) rfl (by omega) (by decide) ?_
  refine zg_val hw ?_
  refine zg_iconst (v := nI 1) dX3_output_70 (by decide) ?_
  first | with_reducible refine zg_iaddN dX3_output_71 ?_ | refine zg_iadd dX3_output_71 ?_
  first | with_reducible refine zg_iastR dX3_output_72 (by assumption) (by assumption) rfl (by omega) (by decide) ?_ | refine zg_iast dX3_output_72 (by assumption) (by assumption) rfl (by omega) (by decide) ?_
  refine zg_aload_n (i := 0) dX3_output_73 rfl rfl ?_
  refine zg_getR dX3_output_74 flX3_7 (by decide) (by assumption) (by assumption) (by assumption) ?_
  refine zg_sipush (v := nI 267) dX3_output_77 (by decide) ?_
  refine zg_aload_n (i := 0) dX3_output_80 rfl rfl ?_
  refine zg_getR dX3_output_81 flX3_7 (by decide) (by assumption) (by assumption) (by assumption) ?_
  refine zg_sipush (v := nI 267) dX3_output_84 (by decide) ?_
  first | with_reducible refine zg_ialdR dX3_output_87 (by assumption) (by assumption) rfl (by omega) (by decide) ?_ | refine zg_iald dX3_output_87 (by assumption) (by assumption) rfl (by omega) (by decide) ?_
  refine zg_val (y := nI (n + 1)) (by rw [upd_s]) ?_
  first | with_reducible refine zg_iaddN dX3_output_88 ?_ | refine zg_iadd dX3_output_88 ?_
  refine zg_iload_n (i := 1) dX3_output_89 rfl rfl ?_
  first | with_reducible refine zg_iastR dX3_output_90 (by assumption) (by assumption) rfl (by omega) (by decide) ?_ | refine zg_iast dX3_output_90 (by assumption) (by assumption) rfl (by omega) (by decide) ?_
  refine zg_aload_n (i := 0) dX3_output_91 rfl rfl ?_
  refine zg_getR dX3_output_92 flX3_7 (by decide) (by assumption) (by assumption) (by assumption) ?_
  refine zg_sipush (v := nI 288) dX3_output_95 (by decide) ?_
  refine zg_dup2 dX3_output_98 ?_
  first | with_reducible refine zg_ialdR dX3_output_99 (by assumption) (by assumption) rfl (by omega) (by decide) ?_ | refine zg_iald dX3_output_99 (by assumption) (by assumption) rfl (by omega) (by decide) ?_
  refine zg_val (y := w 288) (by rw [upd_n (by omega), upd_n (by omega)]) ?_
  refine zg_iconst (v := nI 1) dX3_output_100 (by decide) ?_
  first | with_reducible refine zg_iaddN dX3_output_101 ?_ | refine zg_iadd dX3_output_101 ?_
  first | with_reducible refine zg_iastR dX3_output_102 (by assumption) (by assumption) rfl (by omega) (by decide) ?_ | refine zg_iast dX3_output_102 (by assumption) (by assumption) rfl (by omega) (by decide) ?_
  rw [show 267 + (n + 1) = 268 + n by omega]
  exact zg_vret dX3_output_103 rfl hx
set_option maxRecDepth 20000 in
theorem lm_out15 {S : zS} {m : Nat} (hS : MS S m) (mu : zU) {v : Nat → Int32} {x : Int32} (Ph : Option zV → zS → zU → Prop) (hx : zG RX3 "output" cX3_output 3 none (zroom 0 0 0) 0 0 Ph 49 [some (.inr (m + 1)), some (.inl x), some (.inl (nI 20))] [] S (zrow mu (m + 1) (qmv v 269 1 19)) 0 0) :
    ∀ (t i : Nat), i + t = 19 → zG RX3 "output" cX3_output 3 none (zroom 0 0 0) 0 0 Ph 15 [some (.inr (m + 1)), some (.inl x), some (.inl (nI (1 + i)))] [] S (zrow mu (m + 1) (qmv v 269 1 i)) 0 0 := by
  obtain ⟨⟨hN, k0, k1, -⟩, r0, -⟩ := id hS
  have hN0 : m < S.1 := by omega
  have hN1 : m + 1 < S.1 := by omega
  intro t
  induction t with
  | zero =>
    intro i hi
    obtain rfl : i = 19 := by omega
    refine zg_iload_n (i := 2) dX3_output_15 rfl rfl ?_
    refine zg_bipush (v := nI 20) dX3_output_16 (by decide) ?_
    first | with_reducible refine zg_icmpN_ge (tgt := 49) dX3_output_18 (by decide) (by omega) (by omega) (fun c2 => ?_) (fun c2 => ?_) | refine zg_icmp_ge (tgt := 49) dX3_output_18 (by decide) (fun c2 => ?_) (fun c2 => ?_)
    · exact hx
    · omega
  | succ t ih =>
    intro i hi
    refine zg_iload_n (i := 2) dX3_output_15 rfl rfl ?_
    refine zg_bipush (v := nI 20) dX3_output_16 (by decide) ?_
    first | with_reducible refine zg_icmpN_ge (tgt := 49) dX3_output_18 (by decide) (by omega) (by omega) (fun c2 => ?_) (fun c2 => ?_) | refine zg_icmp_ge (tgt := 49) dX3_output_18 (by decide) (fun c2 => ?_) (fun c2 => ?_)
    · omega
    · refine zg_aload_n (i := 0) dX3_output_21 rfl rfl ?_
      refine zg_getR dX3_output_22 flX3_7 (by decide) (by assumption) (by assumption) (by assumption) ?_
      refine zg_sipush (v := nI 267) dX3_output_25 (by decide) ?_
      refine zg_iload_n (i := 2) dX3_output_28 rfl rfl ?_
      first | with_reducible refine zg_iaddN dX3_output_29 ?_ | refine zg_iadd dX3_output_29 ?_
      refine zg_aload_n (i := 0) dX3_output_30 rfl rfl ?_
      refine zg_getR dX3_output_31 flX3_7 (by decide) (by assumption) (by assumption) (by assumption) ?_
      refine zg_sipush (v := nI 267) dX3_output_34 (by decide) ?_
      refine zg_iload_n (i := 2) dX3_output_37 rfl rfl ?_
      first | with_reducible refine zg_iaddN dX3_output_38 ?_ | refine zg_iadd dX3_output_38 ?_
      refine zg_iconst (v := nI 1) dX3_output_39 (by decide) ?_
      first | with_reducible refine zg_iaddN dX3_output_40 ?_ | refine zg_iadd dX3_output_40 ?_
      first | with_reducible refine zg_ialdR dX3_output_41 (by assumption) (by assumption) rfl (by omega) (by decide) ?_ | refine zg_iald dX3_output_41 (by assumption) (by assumption) rfl (by omega) (by decide) ?_
      refine zg_val (y := v (269 + i)) (by rw [show 267 + (1 + i) + 1 = 269 + i by omega, qmv_at _ _ _ _ (by omega)]) ?_
      first | with_reducible refine zg_iastR dX3_output_42 (by assumption) (by assumption) rfl (by omega) (by decide) ?_ | refine zg_iast dX3_output_42 (by assumption) (by assumption) rfl (by omega) (by decide) ?_
      rw [show 267 + (1 + i) = 269 + i - 1 by omega, qmv_1 v i (by omega)]
      refine zg_iinc1 (L2 := [_, _, _]) dX3_output_43 (by decide) rfl rfl ?_
      refine zg_goto (tgt := 15) dX3_output_46 (by decide) ?_
      exact ih (i + 1) (by omega)
set_option maxRecDepth 20000 in
theorem cm_output {S : zS} {m : Nat} (hS : MS S m) (mu : zU) {v : Nat → Int32} {n : Nat} (hn : n ≤ 20) (hv : v 267 = nI n) (x : Int32) : zM yX3_output cX3_output 3 none 0 0 0 [.inr (m + 1), .inl x] S (zrow mu (m + 1) v) (zPv S (fun mu2 => mu2 = zrow mu (m + 1) (qout v x))) := by
  obtain ⟨⟨hN, k0, k1, -⟩, r0, -⟩ := id hS
  have hN0 : m < S.1 := by omega
  have hN1 : m + 1 < S.1 := by omega
  refine zM.ofG (by decide +kernel) (Nat.le_of_ble_eq_true rfl) ?_
  refine zg_aload_n (i := 0) dX3_output_0 rfl rfl ?_
  refine zg_getR dX3_output_1 flX3_7 (by decide) (by assumption) (by assumption) (by assumption) ?_
  refine zg_sipush (v := nI 267) dX3_output_4 (by decide) ?_
  first | with_reducible refine zg_ialdR dX3_output_7 (by assumption) (by assumption) rfl (by omega) (by decide) ?_ | refine zg_iald dX3_output_7 (by assumption) (by assumption) rfl (by omega) (by decide) ?_
  refine zg_val hv ?_
  refine zg_bipush (v := nI 20) dX3_output_8 (by decide) ?_
  first | with_reducible refine zg_icmpN_ne (tgt := 61) dX3_output_10 (by decide) (by omega) (by omega) (fun c => ?_) (fun c => ?_) | refine zg_icmp_ne (tgt := 61) dX3_output_10 (by decide) (fun c => ?_) (fun c => ?_)
  · exact lm_out61 hS mu (n := n) (by omega) hv _ ⟨rfl, rfl, by rw [qout, qout1, zn_of hv (by omega), if_neg c]⟩
  · subst c
    refine zg_iconst (v := nI 1) dX3_output_13 (by decide) ?_
    refine zg_istore_n (i := 2) (L2 := [_, _, _]) dX3_output_14 rfl (by decide) rfl ?_
    refine zg_mu (mu2 := zrow mu (m + 1) (qmv v 269 1 0)) (by rw [qmv_0]) ?_
    refine lm_out15 hS mu _ ?_ 19 0 rfl
    refine zg_aload_n (i := 0) dX3_output_49 rfl rfl ?_
    refine zg_getR dX3_output_50 flX3_7 (by decide) (by assumption) (by assumption) (by assumption) ?_
    refine zg_sipush (v := nI 267) dX3_output_53 (by decide) ?_
    refine zg_dup2 dX3_output_56 ?_
    first | with_reducible refine zg_ialdR dX3_output_57 (by assumption) (by assumption) rfl (by omega) (by decide) ?_ | refine zg_iald dX3_output_57 (by assumption) (by assumption) rfl (by omega) (by decide) ?_
    refine zg_val (y := nI 20) (by rw [qmv, if_neg (by omega)]; exact hv) ?_
    refine zg_iconst (v := nI 1) dX3_output_58 (by decide) ?_
    first | with_reducible refine zg_isubN dX3_output_59 (by omega) ?_ | refine zg_isub dX3_output_59 ?_
    first | with_reducible refine zg_iastR dX3_output_60 (by assumption) (by assumption) rfl (by omega) (by decide) ?_ | refine zg_iast dX3_output_60 (by assumption) (by assumption) rfl (by omega) (by decide) ?_
    refine lm_out61 hS mu (n := 19) (by omega) (upd_s _ _ _) _ ⟨rfl, rfl, ?_⟩
    show zrow _ _ _ = zrow _ _ _
    rw [qout, qout1, zn_of hv (by omega), if_pos rfl]
    congr 2
    funext j
    unfold upd qmv
    by_cases h1 : j = 267
    · subst h1; simp
    · rw [if_neg h1]
      by_cases h2 : 268 ≤ j ∧ j < 287
      · rw [if_pos (by omega), if_pos h2]
      · rw [if_neg (by omega), if_neg h2, if_neg h1]
set_option maxRecDepth 20000 in
theorem lm_in29 {S : zS} {m : Nat} (hS : MS S m) (mu : zU) {v : Nat → Int32} {p n : Nat} {x : Int32} (hn : n ≤ 16) (h1n : 1 ≤ n) (hv : v 250 = nI n) (Ph : Option zV → zS → zU → Prop) (hx : zG RX3 "input" cX3_input 4 none (zroom 3 0 0) 0 0 Ph 69 [some (.inr (m + 1)), some (.inl (nI p)), some (.inl x), some (.inl (nI n))] [] S (zrow mu (m + 1) (qmv v 252 1 (n - 1))) 0 0) :
    ∀ (t i : Nat), i + t + 1 = n → zG RX3 "input" cX3_input 4 none (zroom 3 0 0) 0 0 Ph 29 [some (.inr (m + 1)), some (.inl (nI p)), some (.inl x), some (.inl (nI (1 + i)))] [] S (zrow mu (m + 1) (qmv v 252 1 i)) 0 0 := by
  obtain ⟨⟨hN, k0, k1, -⟩, r0, -⟩ := id hS
  have hN0 : m < S.1 := by omega
  have hN1 : m + 1 < S.1 := by omega
  intro t
  induction t with
  | zero =>
    intro i hi
    obtain rfl : n = i + 1 := by omega
    refine zg_iload_n (i := 3) dX3_input_29 rfl rfl ?_
    refine zg_aload_n (i := 0) dX3_input_30 rfl rfl ?_
    refine zg_getR dX3_input_31 flX3_7 (by decide) (by assumption) (by assumption) (by assumption) ?_
    refine zg_sipush (v := nI 250) dX3_input_34 (by decide) ?_
    first | with_reducible refine zg_ialdR dX3_input_37 (by assumption) (by assumption) rfl (by omega) (by decide) ?_ | refine zg_iald dX3_input_37 (by assumption) (by assumption) rfl (by omega) (by decide) ?_
    refine zg_val (y := nI (i + 1)) (by rw [qmv, if_neg (by omega)]; exact hv) ?_
    first | with_reducible refine zg_icmpN_ge (tgt := 69) dX3_input_38 (by decide) (by omega) (by omega) (fun c2 => ?_) (fun c2 => ?_) | refine zg_icmp_ge (tgt := 69) dX3_input_38 (by decide) (fun c2 => ?_) (fun c2 => ?_)
    · rw [show 1 + i = i + 1 by omega]; exact hx
    · omega
  | succ t ih =>
    intro i hi
    refine zg_iload_n (i := 3) dX3_input_29 rfl rfl ?_
    refine zg_aload_n (i := 0) dX3_input_30 rfl rfl ?_
    refine zg_getR dX3_input_31 flX3_7 (by decide) (by assumption) (by assumption) (by assumption) ?_
    refine zg_sipush (v := nI 250) dX3_input_34 (by decide) ?_
    first | with_reducible refine zg_ialdR dX3_input_37 (by assumption) (by assumption) rfl (by omega) (by decide) ?_ | refine zg_iald dX3_input_37 (by assumption) (by assumption) rfl (by omega) (by decide) ?_
    refine zg_val (y := nI n) (by rw [qmv, if_neg (by omega)]; exact hv) ?_
    first | with_reducible refine zg_icmpN_ge (tgt := 69) dX3_input_38 (by decide) (by omega) (by omega) (fun c2 => ?_) (fun c2 => ?_) | refine zg_icmp_ge (tgt := 69) dX3_input_38 (by decide) (fun c2 => ?_) (fun c2 => ?_)
    · omega
    · refine zg_aload_n (i := 0) dX3_input_41 rfl rfl ?_
      refine zg_getR dX3_input_42 flX3_7 (by decide) (by assumption) (by assumption) (by assumption) ?_
      refine zg_sipush (v := nI 250) dX3_input_45 (by decide) ?_
      refine zg_iload_n (i := 3) dX3_input_48 rfl rfl ?_
      first | with_reducible refine zg_iaddN dX3_input_49 ?_ | refine zg_iadd dX3_input_49 ?_
      refine zg_aload_n (i := 0) dX3_input_50 rfl rfl ?_
      refine zg_getR dX3_input_51 flX3_7 (by decide) (by assumption) (by assumption) (by assumption) ?_
      refine zg_sipush (v := nI 250) dX3_input_54 (by decide) ?_
      refine zg_iload_n (i := 3) dX3_input_57 rfl rfl ?_
      first | with_reducible refine zg_iaddN dX3_input_58 ?_ | refine zg_iadd dX3_input_58 ?_
      refine zg_iconst (v := nI 1) dX3_input_59 (by decide) ?_
      first | with_reducible refine zg_iaddN dX3_input_60 ?_ | refine zg_iadd dX3_input_60 ?_
      first | with_reducible refine zg_ialdR dX3_input_61 (by assumption) (by assumption) rfl (by omega) (by decide) ?_ | refine zg_iald dX3_input_61 (by assumption) (by assumption) rfl (by omega) (by decide) ?_
      refine zg_val (y := v (252 + i)) (by rw [show 250 + (1 + i) + 1 = 252 + i by omega, qmv_at _ _ _ _ (by omega)]) ?_
      first | with_reducible refine zg_iastR dX3_input_62 (by assumption) (by assumption) rfl (by omega) (by decide) ?_ | refine zg_iast dX3_input_62 (by assumption) (by assumption) rfl (by omega) (by decide) ?_
      rw [show 250 + (1 + i) = 252 + i - 1 by omega, qmv_1 v i (by omega)]
      refine zg_iinc1 (L2 := [_, _, _, _]) dX3_input_63 (by decide) rfl rfl ?_
      refine zg_goto (tgt := 29) dX3_input_66 (by decide) ?_
      exact ih (i + 1) (by omega)
theorem qinV_eq (v : Nat → Int32) {n : Nat} (h : 1 ≤ n) : upd (upd (qmv v 252 1 (n - 1)) (250 + n) (nI 0)) 250 (nI (n - 1)) = qinV v n := by
  funext j
  unfold upd qmv qinV
  by_cases h1 : j = 250
  · subst h1
    rw [if_pos rfl, if_neg (by omega), if_neg (by omega), if_pos rfl]
  · rw [if_neg h1]
    by_cases h2 : j = 250 + n
    · rw [if_pos h2, if_neg (by omega), if_pos h2]; rfl
    · rw [if_neg h2]
      by_cases h3 : 251 ≤ j ∧ j < 250 + n
      · rw [if_pos (by omega), if_pos h3]
      · rw [if_neg (by omega), if_neg h3, if_neg h2, if_neg h1]
theorem PI_out {v w : Nat → Int32} {o x y dr ss sl ns s0 s1 s2 : Nat} (h : PI v o x y dr ss sl ns s0 s1 s2) (hw : ∀ j, o ≤ j → j < o + 25 → w j = v j) : PI w o x y dr ss sl ns s0 s1 s2 := by
  obtain ⟨e0, e1, e2, e3, e4, e5, e6, e7, e8, bb, e9⟩ := h
  exact ⟨(hw _ (by omega) (by omega)).trans e0, (hw _ (by omega) (by omega)).trans e1, (hw _ (by omega) (by omega)).trans e2, (hw _ (by omega) (by omega)).trans e3, (hw _ (by omega) (by omega)).trans e4, (hw _ (by omega) (by omega)).trans e5, (hw _ (by omega) (by omega)).trans e6, (hw _ (by omega) (by omega)).trans e7, (hw _ (by omega) (by omega)).trans e8, bb, fun j h1 h2 => (hw _ (by omega) (by omega)).trans (e9 j h1 h2)⟩
set_option maxRecDepth 20000 in
theorem cm_input {S : zS} {m : Nat} (hS : MS S m) (mu : zU) {v : Nat → Int32} {p x y dr ss sl ns s0 s1 s2 n : Nat} (hp : p < 4) (hP : PI v (150 + 25 * p) x y dr ss sl ns s0 s1 s2) (hn : n ≤ 16) (hv : v 250 = nI n) : zM yX3_input cX3_input 4 none 3 0 0 [.inr (m + 1), .inl (nI p)] S (zrow mu (m + 1) v) (zPv S (fun mu2 => mu2 = zrow mu (m + 1) (qin v (150 + 25 * p)))) := by
  obtain ⟨⟨hN, k0, k1, -⟩, r0, -⟩ := id hS
  have hN0 : m < S.1 := by omega
  have hN1 : m + 1 < S.1 := by omega
  refine zM.ofG (by decide +kernel) (Nat.le_of_ble_eq_true rfl) ?_
  refine zg_aload_n (i := 0) dX3_input_0 rfl rfl ?_
  refine zg_getR dX3_input_1 flX3_7 (by decide) (by assumption) (by assumption) (by assumption) ?_
  refine zg_sipush (v := nI 250) dX3_input_4 (by decide) ?_
  first | with_reducible refine zg_ialdR dX3_input_7 (by assumption) (by assumption) rfl (by omega) (by decide) ?_ | refine zg_iald dX3_input_7 (by assumption) (by assumption) rfl (by omega) (by decide) ?_
  refine zg_val hv ?_
  first | with_reducible refine zg_ifN_ne (tgt := 18) dX3_input_8 (by decide) (by omega) (fun c => ?_) (fun c => ?_) | refine zg_if_ne (tgt := 18) dX3_input_8 (by decide) (fun c => ?_) (fun c => ?_)
  · rw [qin, zn_of hv (by omega), if_neg c]
    refine zg_aload_n (i := 0) dX3_input_18 rfl rfl ?_
    refine zg_getR dX3_input_19 flX3_7 (by decide) (by assumption) (by assumption) (by assumption) ?_
    refine zg_sipush (v := nI 251) dX3_input_22 (by decide) ?_
    first | with_reducible refine zg_ialdR dX3_input_25 (by assumption) (by assumption) rfl (by omega) (by decide) ?_ | refine zg_iald dX3_input_25 (by assumption) (by assumption) rfl (by omega) (by decide) ?_
    refine zg_istore_n (i := 2) (L2 := [_, _, _, _]) dX3_input_26 rfl (by decide) rfl ?_
    refine zg_iconst (v := nI 1) dX3_input_27 (by decide) ?_
    refine zg_istore_n (i := 3) (L2 := [_, _, _, _]) dX3_input_28 rfl (by decide) rfl ?_
    refine zg_mu (mu2 := zrow mu (m + 1) (qmv v 252 1 0)) (by rw [qmv_0]) ?_
    refine lm_in29 hS mu hn (by omega) hv _ ?_ (n - 1) 0 (by omega)
    refine zg_aload_n (i := 0) dX3_input_69 rfl rfl ?_
    refine zg_getR dX3_input_70 flX3_7 (by decide) (by assumption) (by assumption) (by assumption) ?_
    refine zg_sipush (v := nI 250) dX3_input_73 (by decide) ?_
    refine zg_aload_n (i := 0) dX3_input_76 rfl rfl ?_
    refine zg_getR dX3_input_77 flX3_7 (by decide) (by assumption) (by assumption) (by assumption) ?_
    refine zg_sipush (v := nI 250) dX3_input_80 (by decide) ?_
    first | with_reducible refine zg_ialdR dX3_input_83 (by assumption) (by assumption) rfl (by omega) (by decide) ?_ | refine zg_iald dX3_input_83 (by assumption) (by assumption) rfl (by omega) (by decide) ?_
    refine zg_val (y := nI n) (by rw [qmv, if_neg (by omega)]; exact hv) ?_
    first | with_reducible refine zg_iaddN dX3_input_84 ?_ | refine zg_iadd dX3_input_84 ?_
    refine zg_iconst (v := nI 0) dX3_input_85 (by decide) ?_
    first | with_reducible refine zg_iastR dX3_input_86 (by assumption) (by assumption) rfl (by omega) (by decide) ?_ | refine zg_iast dX3_input_86 (by assumption) (by assumption) rfl (by omega) (by decide) ?_
    refine zg_aload_n (i := 0) dX3_input_87 rfl rfl ?_
    refine zg_getR dX3_input_88 flX3_7 (by decide) (by assumption) (by assumption) (by assumption) ?_
    refine zg_sipush (v := nI 250) dX3_input_91 (by decide) ?_
    refine zg_dup2 dX3_input_94 ?_
    first | with_reducible refine zg_ialdR dX3_input_95 (by assumption) (by assumption) rfl (by omega) (by decide) ?_ | refine zg_iald dX3_input_95 (by assumption) (by assumption) rfl (by omega) (by decide) ?_
    refine zg_val (y := nI n) (by rw [upd_n (by omega), qmv, if_neg (by omega)]; exact hv) ?_
    refine zg_iconst (v := nI 1) dX3_input_96 (by decide) ?_
    first | with_reducible refine zg_isubN dX3_input_97 (by omega) ?_ | refine zg_isub dX3_input_97 ?_
    first | with_reducible refine zg_iastR dX3_input_98 (by assumption) (by assumption) rfl (by omega) (by decide) ?_ | refine zg_iast dX3_input_98 (by assumption) (by assumption) rfl (by omega) (by decide) ?_
    rw [qinV_eq v (by omega)]
    refine zg_aload_n (i := 0) dX3_input_99 rfl rfl ?_
    refine zg_iload_n (i := 1) dX3_input_100 rfl rfl ?_
    refine zg_iload_n (i := 2) dX3_input_101 rfl rfl ?_
    refine zg_callVv (cm_push hS mu hp (PI_out hP (fun j h1 h2 => by rw [qinV, if_neg (by omega), if_neg (by omega), if_neg (by omega)])) _) dX3_input_102 cvX3_push mlX3_97 rfl (by assumption) (by assumption) rfl (Nat.le_of_ble_eq_true rfl) ⟨by decide, by decide⟩ ⟨Nat.le_refl _, Nat.le_refl _⟩ (fun mu2 h2 => ?_)
    subst h2
    exact zg_vret dX3_input_105 rfl ⟨rfl, rfl, rfl⟩
  · rw [qin, zn_of hv (by omega), if_pos c]
    refine zg_aload_n (i := 0) dX3_input_11 rfl rfl ?_
    refine zg_iload_n (i := 1) dX3_input_12 rfl rfl ?_
    refine zg_iconst (v := nI 2) dX3_input_13 (by decide) ?_
    refine zg_callVv (cm_turn hS mu hp hP (n := 2) (by omega)) dX3_input_14 cvX3_turn mlX3_93 rfl (by assumption) (by assumption) rfl (Nat.le_of_ble_eq_true rfl) ⟨by decide, by decide⟩ ⟨Nat.le_refl _, Nat.le_refl _⟩ (fun mu2 h2 => ?_)
    subst h2
    exact zg_vret dX3_input_17 rfl ⟨rfl, rfl, rfl⟩
end
section
/-! what each instruction leaves alone: PO v w o: from v to w only the pointer at o has changed, and it is whole -/
def PO (v w : Nat → Int32) (o : Nat) : Prop := (∀ j, (j < o ∨ o + 25 ≤ j) → w j = v j) ∧ PX1 w o
theorem PO.rf {v : Nat → Int32} {o : Nat} (h : PX1 v o) : PO v v o := ⟨fun _ _ => rfl, h⟩
theorem PO.trans {v w u : Nat → Int32} {o : Nat} (h : PO v w o) (h2 : PX1 w o → PO w u o) : PO v u o := ⟨fun j hj => ((h2 h.2).1 j hj).trans (h.1 j hj), (h2 h.2).2⟩
theorem PO_pop {v : Nat → Int32} {o : Nat} (h : PX1 v o) : PO v (qpop v o) o := by
  obtain ⟨x, y, dr, ss, sl, ns, s0, s1, s2, h⟩ := h
  obtain ⟨z5, a1, a2, a3⟩ := h.ns
  by_cases hz : PIsc ns s0 s1 s2 = 0
  · rw [(h.pop0 hz).1]; exact PO.rf ⟨x, y, dr, ss, sl, ns, s0, s1, s2, h⟩
  · refine ⟨fun j hj => ?_, ⟨_, _, _, _, _, _, _, _, _, (h.pop hz).1⟩⟩
    rw [(h.popE hz).1, upd_n (by omega), upd_n (by omega)]
theorem PO_push {v : Nat → Int32} {o : Nat} (h : PX1 v o) (e : Int32) : PO v (qpush v o e) o := by
  obtain ⟨x, y, dr, ss, sl, ns, s0, s1, s2, h⟩ := h
  obtain ⟨z5, a1, a2, a3⟩ := h.ns
  by_cases hz : s0 + s1 + s2 = 16
  · rw [h.pushF hz]
    exact ⟨fun j hj => upd_n (by omega), ⟨_, _, _, _, _, _, _, _, _, h.stat (by omega)⟩⟩
  · refine ⟨fun j hj => ?_, ⟨_, _, _, _, _, _, _, _, _, (h.push hz e).1⟩⟩
    rw [h.pushE hz, upd_n (by omega), upd_n (by omega)]
theorem PO_dir {v : Nat → Int32} {o : Nat} (h : PX1 v o) {d : Nat} (hd : d < 4) : PO v (upd v (o + 2) (nI d)) o := by
  obtain ⟨x, y, dr, ss, sl, ns, s0, s1, s2, h⟩ := h
  exact ⟨fun j hj => upd_n (by omega), ⟨_, _, _, _, _, _, _, _, _, h.dir hd⟩⟩
theorem PO_stat {v : Nat → Int32} {o : Nat} (h : PX1 v o) {d : Nat} (hd : d < 3) : PO v (upd v (o + 3) (nI d)) o := by
  obtain ⟨x, y, dr, ss, sl, ns, s0, s1, s2, h⟩ := h
  exact ⟨fun j hj => upd_n (by omega), ⟨_, _, _, _, _, _, _, _, _, h.stat hd⟩⟩
theorem PO_slp {v : Nat → Int32} {o : Nat} (h : PX1 v o) {d : Nat} (hd : d ≤ 9) : PO v (upd v (o + 4) (nI d)) o := by
  obtain ⟨x, y, dr, ss, sl, ns, s0, s1, s2, h⟩ := h
  exact ⟨fun j hj => upd_n (by omega), ⟨_, _, _, _, _, _, _, _, _, h.slp hd⟩⟩
theorem PO_move {v : Nat → Int32} {o : Nat} (h : PX1 v o) : PO v (qmove v o) o := by
  obtain ⟨x, y, dr, ss, sl, ns, s0, s1, s2, h⟩ := h
  exact ⟨fun j hj => by rw [qmove, upd_n (by omega), upd_n (by omega)], ⟨_, _, _, _, _, _, _, _, _, h.move.2⟩⟩
theorem PO_turn {v : Nat → Int32} {o : Nat} (h : PX1 v o) (n : Nat) : PO v (qturn v o n) o := by
  obtain ⟨x, y, dr, ss, sl, ns, s0, s1, s2, h⟩ := h
  exact ⟨fun j hj => by rw [qturn, upd_n (by omega)], ⟨_, _, _, _, _, _, _, _, _, (h.turn n).2⟩⟩
theorem PO_open {v : Nat → Int32} {o : Nat} (h : PX1 v o) : PO v (qopen v o) o := by
  refine (PO_pop h).trans (fun h2 => ?_)
  obtain ⟨x, y, dr, ss, sl, ns, s0, s1, s2, h3⟩ := id h2
  obtain ⟨z5, a1, a2, a3⟩ := h3.ns
  obtain ⟨hc, hq, hh, hl⟩ := h3.cur
  rw [qopen, qopen1, z5]
  by_cases hn : ns = 3
  · rw [if_pos hn]; exact PO.rf h2
  · have hk := qclamp_le (qpopR v o) (n := PIsc ns s0 s1 s2) (by omega)
    have := h3.opn hn hk
    rw [if_neg hn, hq, zn_of hc (by omega)]
    refine ⟨fun j hj => ?_, ⟨_, _, _, _, _, _, _, _, _, this.2⟩⟩
    rw [this.1, upd_n (by omega), upd_n (by omega), upd_n (by omega)]
theorem PO_close {v : Nat → Int32} {o : Nat} (h : PX1 v o) : PO v (qclose v o) o := by
  obtain ⟨x, y, dr, ss, sl, ns, s0, s1, s2, h0⟩ := id h
  obtain ⟨z5, a1, a2, a3⟩ := h0.ns
  rw [qclose, z5]
  by_cases hn : ns = 1
  · rw [if_pos hn]; exact PO_turn h 2
  · rw [if_neg hn]
    refine (PO_pop h).trans (fun h2 => ?_)
    obtain ⟨t0, t1, t2, h3, -⟩ := h0.pop1
    obtain ⟨z5, a1, a2, a3⟩ := h3.ns
    obtain ⟨hc, hq, hh, hl⟩ := h3.cur
    have hk := qclamp_le (qpopR v o) (n := PIsc ns t0 t1 t2) (by omega)
    have := h3.cls hn hk
    rw [qclose1, hq, zn_of hc (by omega)]
    refine ⟨fun j hj => ?_, ⟨_, _, _, _, _, _, _, _, _, this.2⟩⟩
    rw [this.1, upd_n (by omega), upd_n (by omega), upd_n (by omega), qshift, if_neg (by omega), if_neg (by omega)]
theorem PO_push2 {v : Nat → Int32} {o : Nat} (h : PX1 v o) (a b : Int32) : PO v (qpush2 v o a b) o := by
  rw [qpush2]
  split
  · exact (PO_push h a).trans (fun h2 => PO_push h2 b)
  · exact PO_push h a
theorem PO_dup {v : Nat → Int32} {o : Nat} (h : PX1 v o) : PO v (qdup v o) o := (PO_pop h).trans (fun h2 => PO_push2 h2 _ _)
theorem PO_swap {v : Nat → Int32} {o : Nat} (h : PX1 v o) : PO v (qswap v o) o := (PO_pop h).trans (fun h2 => (PO_pop h2).trans (fun h3 => PO_push2 h3 _ _))
theorem PO_bin {v : Nat → Int32} {o : Nat} (h : PX1 v o) (c : Int32) : PO v (qbin v o c) o := (PO_pop h).trans (fun h2 => (PO_pop h2).trans (fun h3 => PO_push h3 _))
theorem PO_fetch {v : Nat → Int32} {o : Nat} (h : PX1 v o) : PO v (qfetch v o) o := (PO_pop h).trans (fun h2 => (PO_pop h2).trans (fun h3 => PO_push h3 _))
theorem PO_steer {v : Nat → Int32} {o : Nat} (h : PX1 v o) (c : Int32) : PO v (qsteer v o c) o := by
  unfold qsteer
  split
  · exact PO_dir h (by omega)
  split
  · exact PO_dir h (by omega)
  split
  · exact PO_dir h (by omega)
  split
  · exact PO_dir h (by omega)
  split
  · refine (PO_pop h).trans (fun h2 => ?_)
    split
    · exact PO_dir h2 (by omega)
    · exact PO_dir h2 (by omega)
  split
  · refine (PO_pop h).trans (fun h2 => ?_)
    split
    · exact PO_dir h2 (by omega)
    · exact PO_dir h2 (by omega)
  split
  · exact PO_turn h 3
  split
  · exact PO_turn h 1
  split
  · exact PO_turn h 2
  split
  · exact PO_move h
  · exact PO.rf h
theorem PO_perf {v : Nat → Int32} {o : Nat} (h : PX1 v o) (c : Int32) : PO v (qperf v o c) o := by
  unfold qperf
  split
  · exact PO_push h _
  split
  · exact PO_bin h c
  split
  · exact (PO_pop h).trans (fun h2 => PO_push h2 _)
  split
  · exact PO_dup h
  split
  · exact PO_swap h
  split
  · exact PO_pop h
  split
  · exact PO_open h
  split
  · exact PO_close h
  split
  · exact (PO_pop h).trans (fun h2 => PO_slp h2 (qclamp_le _ (by omega)))
  split
  · exact PO_stat h (by omega)
  · exact PO_steer h c
/-- the row whole: ol is the order -/
def VI (v : Nat → Int32) (ol : List Nat) : Prop :=
  (v 145 = nI ol.length ∧ 1 ≤ ol.length ∧ ol.length ≤ 4) ∧ (∀ i q : Nat, ol[i]? = some q → v (146 + i) = nI q ∧ q < ol.length) ∧ (∀ i j q : Nat, ol[i]? = some q → ol[j]? = some q → i = j) ∧ (∀ i, ol.length ≤ i → i < 4 → v (146 + i) = 0) ∧
  (∀ p, p < ol.length → PX1 v (150 + 25 * p)) ∧ (∀ p j, ol.length ≤ p → p < 4 → j < 25 → v (150 + 25 * p + j) = 0) ∧ (∃ n, n ≤ 16 ∧ v 250 = nI n ∧ ∀ j, n ≤ j → j < 16 → v (251 + j) = 0) ∧ (∃ n, n ≤ 20 ∧ v 267 = nI n ∧ ∀ j, n ≤ j → j < 20 → v (268 + j) = 0)
theorem PX1_out {v w : Nat → Int32} {o : Nat} (h : PX1 v o) (hw : ∀ j, o ≤ j → j < o + 25 → w j = v j) : PX1 w o := by
  obtain ⟨x, y, dr, ss, sl, ns, s0, s1, s2, h⟩ := h
  exact ⟨x, y, dr, ss, sl, ns, s0, s1, s2, PI_out h hw⟩
theorem VI_ptr {v w : Nat → Int32} {ol : List Nat} {p : Nat} (h : VI v ol) (hp : p < ol.length) (hw : PO v w (150 + 25 * p)) : VI w ol := by
  obtain ⟨⟨h1, h2, h3⟩, h4, h5, h6, h7, h8, ⟨n, g1, g2, g3⟩, k, k1, k2, k3⟩ := h
  obtain ⟨hw, hx⟩ := hw
  refine ⟨⟨(hw _ (by omega)).trans h1, h2, h3⟩, fun i q hq => ?_, h5, fun i a b => (hw _ (by omega)).trans (h6 i a b), fun q hq => ?_, fun q j a b c => (hw _ (by omega)).trans (h8 q j a b c), ⟨n, g1, (hw _ (by omega)).trans g2, fun j a b => (hw _ (by omega)).trans (g3 j a b)⟩, k, k1, (hw _ (by omega)).trans k2, fun j a b => (hw _ (by omega)).trans (k3 j a b)⟩
  · have hi := (List.getElem?_eq_some_iff.mp hq).1
    exact ⟨(hw _ (by omega)).trans (h4 i q hq).1, (h4 i q hq).2⟩
  · by_cases hqp : q = p
    · subst hqp; exact hx
    · exact PX1_out (h7 q hq) (fun j a b => hw j (by omega))
/-- the grid, the ticks and the output change -/
theorem VI_out {v w : Nat → Int32} {ol : List Nat} (h : VI v ol) (hw : ∀ j, 145 ≤ j → j < 267 → w j = v j) (ho : ∃ n, n ≤ 20 ∧ w 267 = nI n ∧ ∀ j, n ≤ j → j < 20 → w (268 + j) = 0) : VI w ol := by
  obtain ⟨⟨h1, h2, h3⟩, h4, h5, h6, h7, h8, ⟨n, g1, g2, g3⟩, -⟩ := h
  refine ⟨⟨(hw _ (by omega) (by omega)).trans h1, h2, h3⟩, fun i q hq => ?_, h5, fun i a b => (hw _ (by omega) (by omega)).trans (h6 i a b), fun q hq => PX1_out (h7 q hq) (fun j a b => hw j (by omega) (by omega)), fun q j a b c => (hw _ (by omega) (by omega)).trans (h8 q j a b c), ⟨n, g1, (hw _ (by omega) (by omega)).trans g2, fun j a b => (hw _ (by omega) (by omega)).trans (g3 j a b)⟩, ho⟩
  have hi := (List.getElem?_eq_some_iff.mp hq).1
  exact ⟨(hw _ (by omega) (by omega)).trans (h4 i q hq).1, (h4 i q hq).2⟩
theorem VI_grid {v : Nat → Int32} {ol : List Nat} (h : VI v ol) {j : Nat} (hj : j < 145) (x : Int32) : VI (upd v j x) ol := by
  obtain ⟨k, k1, k2, k3⟩ := h.2.2.2.2.2.2.2
  exact VI_out h (fun i a b => upd_n (by omega)) ⟨k, k1, by rw [upd_n (by omega)]; exact k2, fun i a b => by rw [upd_n (by omega)]; exact k3 i a b⟩
theorem VI_qout {v : Nat → Int32} {ol : List Nat} (h : VI v ol) (x : Int32) : VI (qout v x) ol := by
  obtain ⟨k, k1, k2, k3⟩ := h.2.2.2.2.2.2.2
  by_cases hk : k = 20
  · subst hk
    have e : qout1 v = fun j => if 268 ≤ j ∧ j < 287 then v (j + 1) else if j = 267 then nI 19 else v j := by rw [qout1, zn_of k2 (by omega), if_pos rfl]
    have e19 : qout1 v 267 = nI 19 := by rw [e]; simp
    refine VI_out h (fun i a b => ?_) ⟨20, by omega, ?_, fun j a b => by omega⟩
    · rw [qout, qout2, zn_of e19 (by omega), upd_n (by omega), upd_n (by omega), upd_n (by omega), e]
      show (if 268 ≤ i ∧ i < 287 then v (i + 1) else if i = 267 then nI 19 else v i) = v i
      rw [if_neg (by omega), if_neg (by omega)]
    · rw [qout, qout2, zn_of e19 (by omega), upd_n (by omega), upd_n (by omega), upd_s]
  · have e : qout1 v = v := by rw [qout1, zn_of k2 (by omega), if_neg hk]
    refine VI_out h (fun i a b => ?_) ⟨k + 1, by omega, ?_, fun j a b => ?_⟩
    · rw [qout, qout2, e, zn_of k2 (by omega), upd_n (by omega), upd_n (by omega), upd_n (by omega)]
    · rw [qout, qout2, e, zn_of k2 (by omega), upd_n (by omega), upd_n (by omega), upd_s]
    · rw [qout, qout2, e, zn_of k2 (by omega), upd_n (by omega), upd_n (by omega), upd_n (by omega)]
      exact k3 j (by omega) b
theorem VI_qinV {v : Nat → Int32} {ol : List Nat} (h : VI v ol) {n : Nat} (hn : 1 ≤ n) (h16 : n ≤ 16) (hv : v 250 = nI n) : VI (qinV v n) ol := by
  obtain ⟨⟨h1, h2, h3⟩, h4, h5, h6, h7, h8, ⟨k, g1, g2, g3⟩, ho⟩ := h
  have hkn : k = n := by
    rw [hv] at g2
    exact ((nI_eq (by omega) (by omega)).mp g2).symm
  subst hkn
  have hw : ∀ j, (j < 250 ∨ 267 ≤ j) → qinV v k j = v j := fun j hj => by rw [qinV, if_neg (by omega), if_neg (by omega), if_neg (by omega)]
  refine ⟨⟨(hw _ (by omega)).trans h1, h2, h3⟩, fun i q hq => ?_, h5, fun i a b => (hw _ (by omega)).trans (h6 i a b), fun q hq => PX1_out (h7 q hq) (fun j a b => hw j (by omega)), fun q j a b c => (hw _ (by omega)).trans (h8 q j a b c), ⟨k - 1, by omega, ?_, fun j a b => ?_⟩, ?_⟩
  · have hi := (List.getElem?_eq_some_iff.mp hq).1
    exact ⟨(hw _ (by omega)).trans (h4 i q hq).1, (h4 i q hq).2⟩
  · rw [qinV, if_neg (by omega), if_neg (by omega), if_pos rfl]
  · rw [qinV, if_neg (by omega)]
    by_cases hj : 251 + j = 250 + k
    · rw [if_pos hj]
    · rw [if_neg hj, if_neg (by omega)]; exact g3 j (by omega) b
  · obtain ⟨n, k1, k2, k3⟩ := ho
    exact ⟨n, k1, (hw _ (by omega)).trans k2, fun j a b => (hw _ (by omega)).trans (k3 j a b)⟩
end
section
/-! the split, and a turn, keep the row whole -/
theorem qplace_at {v : Nat → Int32} {ol : List Nat} {p i : Nat} (h : VI v ol) (hi : ol[i]? = some p) : ∀ n, i < n → n ≤ ol.length → qplace v p n = i + 1 := by
  intro n
  induction n with
  | zero => intro h; omega
  | succ n ih =>
    intro h1 h2
    obtain ⟨⟨h145, hl1, hl4⟩, h4, h5, -⟩ := h
    rw [qplace]
    have hn : n < ol.length := by omega
    have hq := List.getElem?_eq_getElem hn
    have := h4 n _ hq
    by_cases hin : i = n
    · subst hin
      rw [if_pos (h4 i p hi).1]
    · rw [if_neg, ih (by omega) (by omega)]
      intro e
      rw [this.1] at e
      have hp := (h4 i p hi).2
      rw [nI_eq (by omega) (by omega)] at e
      rw [e] at hq
      exact hin (h5 i n p hi hq)
theorem qborn_out {v : Nat → Int32} {o b j : Nat} (hj : j < b ∨ b + 25 ≤ j) : qborn v o b j = v j := by
  rw [qborn, qmove, upd_n (by omega), upd_n (by omega), qturn, upd_n (by omega), upd_n (by omega), upd_n (by omega), qcopy, if_neg (by omega)]
theorem PI_copy {v : Nat → Int32} {o b x y dr ss sl ns s0 s1 s2 : Nat} (h : PI v o x y dr ss sl ns s0 s1 s2) : PI (qcopy v o b) b x y dr ss sl ns s0 s1 s2 := by
  have hw : ∀ i, i < 25 → qcopy v o b (b + i) = v (o + i) := fun i hi => by rw [qcopy, if_pos (by omega), show b + i - b + o = o + i by omega]
  obtain ⟨e0, e1, e2, e3, e4, e5, e6, e7, e8, bb, e9⟩ := h
  exact ⟨(hw 0 (by omega)).trans e0, (hw 1 (by omega)).trans e1, (hw 2 (by omega)).trans e2, (hw 3 (by omega)).trans e3, (hw 4 (by omega)).trans e4, (hw 5 (by omega)).trans e5, (hw 6 (by omega)).trans e6, (hw 7 (by omega)).trans e7, (hw 8 (by omega)).trans e8, bb, fun j h1 h2 => by
    have := hw (9 + j) (by omega)
    rw [← Nat.add_assoc, ← Nat.add_assoc] at this
    exact this.trans (e9 j h1 h2)⟩
theorem PX1_born {v : Nat → Int32} {o b : Nat} (h : PX1 v o) : PX1 (qborn v o b) b := by
  obtain ⟨x, y, dr, ss, sl, ns, s0, s1, s2, h⟩ := h
  have h2 := ((PI_copy (b := b) h).stat (d := 0) (by omega)).slp (d := 0) (by omega)
  exact (PO_move (PO_turn ⟨_, _, _, _, _, _, _, _, _, h2⟩ 2).2).2
theorem VI_split {v : Nat → Int32} {ol : List Nat} {p i : Nat} (h : VI v ol) (hi : ol[i]? = some p) (hl : ol.length ≠ 4) : VI (qsplit2 v p ol.length) (ol.insertIdx (i + 1) ol.length) := by
  obtain ⟨⟨h145, hl1, hl4⟩, h4, h5, h6, h7, h8, ⟨k, g1, g2, g3⟩, n, k1, k2, k3⟩ := id h
  have hil := (List.getElem?_eq_some_iff.mp hi).1
  have hp := (h4 i p hi).2
  have hpl := qplace_at h hi ol.length hil (Nat.le_refl _)
  have hlen : (ol.insertIdx (i + 1) ol.length).length = ol.length + 1 := by rw [List.length_insertIdx, if_pos (by omega)]
  generalize hu : qborn v (150 + 25 * p) (150 + 25 * ol.length) = u
  have hu1 : ∀ j, (j < 150 + 25 * ol.length ∨ 175 + 25 * ol.length ≤ j) → u j = v j := fun j hj => by rw [← hu]; exact qborn_out (by omega)
  have hu2 : PX1 u (150 + 25 * ol.length) := by rw [← hu]; exact PX1_born (h7 p hp)
  have e : ∀ j, (j < 145 ∨ 150 ≤ j) → qsplit2 v p ol.length j = u j := fun j hj => by rw [qsplit2, hu, hpl, upd_n (by omega), qins, if_neg (by omega), if_neg (by omega)]
  refine ⟨⟨by rw [hlen, qsplit2, upd_s], by omega, by omega⟩, fun j q hq => ?_, fun a b q ha hb => ?_, fun j a b => ?_, fun q hq => ?_, fun q j a b c => ?_, ⟨k, g1, ?_, fun j a b => ?_⟩, n, k1, ?_, fun j a b => ?_⟩
  · rw [List.getElem?_insertIdx] at hq
    rw [qsplit2, hu, hpl, upd_n (by omega), qins, hlen]
    by_cases c1 : j < i + 1
    · rw [if_pos c1] at hq
      have hj := (List.getElem?_eq_some_iff.mp hq).1
      rw [if_neg (by omega), if_neg (by omega), hu1 _ (by omega)]
      exact ⟨(h4 j q hq).1, by have := (h4 j q hq).2; omega⟩
    · rw [if_neg c1] at hq
      by_cases c2 : j = i + 1
      · rw [if_pos c2, if_pos (by omega)] at hq
        cases hq
        rw [if_neg (by omega), if_pos (by omega)]
        exact ⟨rfl, by omega⟩
      · rw [if_neg c2] at hq
        have hj := (List.getElem?_eq_some_iff.mp hq).1
        rw [if_pos (by omega), hu1 _ (by omega), show 146 + j - 1 = 146 + (j - 1) by omega]
        exact ⟨(h4 (j - 1) q hq).1, by have := (h4 (j - 1) q hq).2; omega⟩
  · rw [List.getElem?_insertIdx] at ha hb
    by_cases a1 : a < i + 1
    · rw [if_pos a1] at ha
      by_cases b1 : b < i + 1
      · rw [if_pos b1] at hb; exact h5 a b q ha hb
      · rw [if_neg b1] at hb
        by_cases b2 : b = i + 1
        · rw [if_pos b2, if_pos (by omega)] at hb
          cases hb
          have := (h4 a _ ha).2
          omega
        · rw [if_neg b2] at hb
          have := h5 a (b - 1) q ha hb
          omega
    · rw [if_neg a1] at ha
      by_cases a2 : a = i + 1
      · rw [if_pos a2, if_pos (by omega)] at ha
        cases ha
        by_cases b1 : b < i + 1
        · rw [if_pos b1] at hb
          have := (h4 b _ hb).2
          omega
        · rw [if_neg b1] at hb
          by_cases b2 : b = i + 1
          · omega
          · rw [if_neg b2] at hb
            have := (h4 (b - 1) _ hb).2
            omega
      · rw [if_neg a2] at ha
        by_cases b1 : b < i + 1
        · rw [if_pos b1] at hb
          have := h5 (a - 1) b q ha hb
          omega
        · rw [if_neg b1] at hb
          by_cases b2 : b = i + 1
          · rw [if_pos b2, if_pos (by omega)] at hb
            cases hb
            have := (h4 (a - 1) _ ha).2
            omega
          · rw [if_neg b2] at hb
            have := h5 (a - 1) (b - 1) q ha hb
            omega
  · rw [hlen] at a
    rw [qsplit2, hu, hpl, upd_n (by omega), qins, if_neg (by omega), if_neg (by omega), hu1 _ (by omega)]
    exact h6 j (by omega) b
  · rw [hlen] at hq
    by_cases hqc : q = ol.length
    · subst hqc
      exact PX1_out hu2 (fun j a b => e j (by omega))
    · exact PX1_out (h7 q (by omega)) (fun j a b => by rw [e j (by omega), hu1 j (by omega)])
  · rw [hlen] at a
    rw [e _ (by omega), hu1 _ (by omega)]
    exact h8 q j (by omega) b c
  · rw [e _ (by omega), hu1 _ (by omega)]; exact g2
  · rw [e _ (by omega), hu1 _ (by omega)]; exact g3 j a b
  · rw [e _ (by omega), hu1 _ (by omega)]; exact k2
  · rw [e _ (by omega), hu1 _ (by omega)]; exact k3 j a b
/-- the order behind a turn of the pointer at place i -/
def olNext (v : Nat → Int32) (ol : List Nat) (i : Nat) (c : Int32) : List Nat := if c = nI 116 ∧ ol.length ≠ 4 then ol.insertIdx (i + 1) ol.length else ol
theorem VI_exec {v : Nat → Int32} {ol : List Nat} {p i : Nat} (h : VI v ol) (hi : ol[i]? = some p) (c : Int32) : VI (qexec v p c) (olNext v ol i c) := by
  have hp : p < ol.length := (h.2.1 i p hi).2
  have hX := h.2.2.2.2.1 p hp
  unfold qexec olNext
  by_cases c1 : c = nI 103
  · rw [if_pos c1, if_neg (by rw [c1]; exact fun z => absurd z.1 (by decide))]; exact VI_ptr h hp (PO_fetch hX)
  rw [if_neg c1]
  by_cases c2 : c = nI 112
  · rw [if_pos c2, if_neg (by rw [c2]; exact fun z => absurd z.1 (by decide)), qstore, qstore3]
    have h3 := VI_ptr h hp ((PO_pop hX).trans (fun h2 => (PO_pop h2).trans (fun h3 => PO_pop h3)))
    split
    · have := qcell_lt (qpopR (qpop v (150 + 25 * p)) (150 + 25 * p)) (qpopR v (150 + 25 * p))
      exact VI_grid h3 (by omega) _
    · exact h3
  rw [if_neg c2]
  by_cases c3 : c = nI 46
  · rw [if_pos c3, if_neg (by rw [c3]; exact fun z => absurd z.1 (by decide))]; exact VI_qout (VI_ptr h hp (PO_pop hX)) _
  rw [if_neg c3]
  by_cases c4 : c = nI 126
  · rw [if_pos c4, if_neg (by rw [c4]; exact fun z => absurd z.1 (by decide)), qin]
    obtain ⟨n, g1, g2, -⟩ := h.2.2.2.2.2.2.1
    rw [zn_of g2 (by omega)]
    split
    · exact VI_ptr h hp (PO_turn hX 2)
    · have := VI_qinV h (n := n) (by omega) g1 g2
      exact VI_ptr this hp (PO_push (this.2.2.2.2.1 p hp) _)
  rw [if_neg c4]
  by_cases c5 : c = nI 116
  · rw [if_pos c5, qsplit, zn_of h.1.1 (by have := h.1.2.2; omega)]
    by_cases hl : ol.length = 4
    · rw [if_pos hl, if_neg (fun z => z.2 hl)]; exact h
    · rw [if_neg hl, if_pos ⟨c5, hl⟩]; exact VI_split h hi hl
  rw [if_neg c5, if_neg (fun z => c5 z.1)]
  exact VI_ptr h hp (PO_perf hX c)
/-- the code under the pointer p -/
def qcode (v : Nat → Int32) (p : Nat) : Int32 := v (72 + 12 * zn v (151 + 25 * p) + zn v (150 + 25 * p))
def olTake (v : Nat → Int32) (ol : List Nat) (i p : Nat) : List Nat := if v (153 + 25 * p) ≠ 0 then ol else if 0 < v (154 + 25 * p) then ol else olNext v ol i (qcode v p)
theorem olNext_mem {v : Nat → Int32} {ol : List Nat} {i q : Nat} {c : Int32} (hi : i < ol.length) (h : q ∈ ol) : q ∈ olNext v ol i c := by
  unfold olNext
  split
  · obtain ⟨j, hj⟩ := List.getElem?_of_mem h
    by_cases c1 : j < i + 1
    · exact List.mem_of_getElem? (i := j) (by rw [List.getElem?_insertIdx, if_pos c1]; exact hj)
    · exact List.mem_of_getElem? (i := j + 1) (by rw [List.getElem?_insertIdx, if_neg (by omega), if_neg (by omega)]; exact hj)
  · exact h
theorem VI_take {v : Nat → Int32} {ol : List Nat} {p i : Nat} (h : VI v ol) (hi : ol[i]? = some p) : VI (qtake v p) (olTake v ol i p) := by
  have hp : p < ol.length := (h.2.1 i p hi).2
  have hX := h.2.2.2.2.1 p hp
  unfold qtake olTake
  split
  · exact h
  split
  · rename_i hs
    obtain ⟨x, y, dr, ss, sl, ns, s0, s1, s2, h0⟩ := id hX
    have e4 : v (154 + 25 * p) = nI sl := by rw [show 154 + 25 * p = 150 + 25 * p + 4 by omega]; exact h0.2.2.2.2.1
    have b5 : sl ≤ 9 := h0.2.2.2.2.2.2.2.2.2.1.2.2.2.2.1
    rw [e4] at hs ⊢
    have hs' : 0 < sl := by rw [← n0, nI_ltI (by omega) (by omega)] at hs; exact hs
    rw [← n1, pk_sub (by omega), show 154 + 25 * p = 150 + 25 * p + 4 by omega]
    exact VI_ptr h hp (PO_slp hX (by omega))
  · have h2 := VI_exec h hi (qcode v p)
    unfold qcode at h2 ⊢
    generalize qexec v p (v (72 + 12 * zn v (151 + 25 * p) + zn v (150 + 25 * p))) = w at *
    rw [qend]
    split
    · obtain ⟨j, hj⟩ := List.getElem?_of_mem (olNext_mem (v := v) (c := v (72 + 12 * zn v (151 + 25 * p) + zn v (150 + 25 * p))) (List.getElem?_eq_some_iff.mp hi).1 (List.mem_of_getElem? hi))
      have hp2 := (h2.2.1 j p hj).2
      exact VI_ptr h2 hp2 (PO_move (h2.2.2.2.2.1 p hp2))
    · exact h2
theorem olTake_mem {v : Nat → Int32} {ol : List Nat} {i p q : Nat} (hi : i < ol.length) (h : q ∈ ol) : q ∈ olTake v ol i p := by
  unfold olTake
  split
  · exact h
  split
  · exact h
  · exact olNext_mem hi h
/-- the turns of a tick, one after the other, by the order with which it began -/
theorem VI_takes {v : Nat → Int32} {ol : List Nat} (h : VI v ol) : ∀ n, n ≤ ol.length → ∃ ol2, VI (qtakes v n) ol2 ∧ ∀ q, q ∈ ol → q ∈ ol2 := by
  intro n
  induction n with
  | zero => intro _; exact ⟨ol, h, fun _ h => h⟩
  | succ n ih =>
    intro hn
    obtain ⟨ol2, h2, hm⟩ := ih (by omega)
    have hq := List.getElem?_eq_getElem (show n < ol.length by omega)
    have h3 := h.2.1 n _ hq
    have hl := h.1.2.2
    rw [qtakes, zn_of h3.1 (by omega)]
    obtain ⟨i, hi⟩ := List.getElem?_of_mem (hm _ (List.mem_of_getElem? hq))
    exact ⟨_, VI_take h2 hi, fun q hq2 => olTake_mem (List.getElem?_eq_some_iff.mp hi).1 (hm q hq2)⟩
theorem VI_step {v : Nat → Int32} {ol : List Nat} (h : VI v ol) : ∃ ol2, VI (qstep v) ol2 := by
  have hl := h.1.2.2
  obtain ⟨ol2, h2, -⟩ := VI_takes h ol.length (Nat.le_refl _)
  rw [qstep, zn_of h.1.1 (by omega)]
  exact ⟨ol2, VI_grid h2 (by omega) _⟩
end
section
/-! THE REFERENCE: split, execute, takeTurn, step, isHalted, isAtBreakpoint -/
def qcopyi (w : Nat → Int32) (a b i : Nat) : Nat → Int32 := fun j => if b ≤ j ∧ j < b + i then w (j - b + a) else w j
theorem qcopyi_1 (w : Nat → Int32) (a b i : Nat) : upd (qcopyi w a b i) (b + i) (w (a + i)) = qcopyi w a b (i + 1) := by
  funext j
  by_cases hj : j = b + i
  · subst hj
    rw [upd_s, qcopyi, if_pos (by omega), show b + i - b + a = a + i by omega]
  · rw [upd_n hj]
    unfold qcopyi
    by_cases h2 : b ≤ j ∧ j < b + i
    · rw [if_pos h2, if_pos (by omega)]
    · rw [if_neg h2, if_neg (by omega)]
theorem qcopyi_0 (w : Nat → Int32) (a b : Nat) : qcopyi w a b 0 = w := by
  funext j
  rw [qcopyi, if_neg (by omega)]
theorem qcopyi_25 (w : Nat → Int32) (a b : Nat) : qcopyi w a b 25 = qcopy w a b := rfl
set_option maxRecDepth 20000 in
theorem lm_split24 {S : zS} {m : Nat} (hS : MS S m) (mu : zU) (w : Nat → Int32) {pp cn : Nat} (hpc : pp < cn) (hc4 : cn < 4) (Ph : Option zV → zS → zU → Prop)
    (hx : zG RX3 "split" cX3_split 4 none (zroom 2 0 0) 0 0 Ph 48 [some (.inr (m + 1)), some (.inl (nI pp)), some (.inl (nI cn)), some (.inl (nI 25))] [] S (zrow mu (m + 1) (qcopy w (150 + 25 * pp) (150 + 25 * cn))) 0 0) :
    ∀ (t i : Nat), i + t = 25 → zG RX3 "split" cX3_split 4 none (zroom 2 0 0) 0 0 Ph 24 [some (.inr (m + 1)), some (.inl (nI pp)), some (.inl (nI cn)), some (.inl (nI i))] [] S (zrow mu (m + 1) (qcopyi w (150 + 25 * pp) (150 + 25 * cn) i)) 0 0 := by
  obtain ⟨⟨hN, k0, k1, -⟩, r0, -⟩ := id hS
  have hN0 : m < S.1 := by omega
  intro t
  induction t with
  | zero =>
    intro i hi
    obtain rfl : i = 25 := by omega
    refine zg_iload_n (i := 3) dX3_split_24 rfl rfl ?_
    refine zg_bipush (v := nI 25) dX3_split_25 (by decide) ?_
    first | with_reducible refine zg_icmpN_ge (tgt := 48) dX3_split_27 (by decide) (by omega) (by omega) (fun c2 => ?_) (fun c2 => ?_) | refine zg_icmp_ge (tgt := 48) dX3_split_27 (by decide) (fun c2 => ?_) (fun c2 => ?_)
    · exact hx
    · omega
  | succ t ih =>
    intro i hi
    refine zg_iload_n (i := 3) dX3_split_24 rfl rfl ?_
    refine zg_bipush (v := nI 25) dX3_split_25 (by decide) ?_
    first | with_reducible refine zg_icmpN_ge (tgt := 48) dX3_split_27 (by decide) (by omega) (by omega) (fun c2 => ?_) (fun c2 => ?_) | refine zg_icmp_ge (tgt := 48) dX3_split_27 (by decide) (fun c2 => ?_) (fun c2 => ?_)
    · omega
    · refine zg_aload_n (i := 0) dX3_split_30 rfl rfl ?_
      refine zg_iload_n (i := 2) dX3_split_31 rfl rfl ?_
      refine zg_iload_n (i := 3) dX3_split_32 rfl rfl ?_
      refine zg_aload_n (i := 0) dX3_split_33 rfl rfl ?_
      refine zg_iload_n (i := 1) dX3_split_34 rfl rfl ?_
      refine zg_iload_n (i := 3) dX3_split_35 rfl rfl ?_
      refine zg_callVi (cm_of hS mu _ (p := pp) (w := i) (by omega)) dX3_split_36 cvX3_of mlX3_69 rfl (by assumption) (by assumption) rfl (Nat.le_of_ble_eq_true rfl) ⟨by decide, by decide⟩ ⟨Nat.le_refl _, Nat.le_refl _⟩ (fun r mu2 h2 => ?_)
      obtain ⟨rfl, rfl⟩ := h2
      refine zg_val (y := w (150 + 25 * pp + i)) (by rw [qcopyi, if_neg (by omega)]) ?_
      refine zg_callVv (cm_put hS mu _ (p := cn) (w := i) (by omega) _) dX3_split_39 cvX3_put mlX3_80 rfl (by assumption) (by assumption) rfl (Nat.le_of_ble_eq_true rfl) ⟨by decide, by decide⟩ ⟨Nat.le_refl _, Nat.le_refl _⟩ (fun mu2 h2 => ?_)
      subst h2
      rw [qcopyi_1]
      refine zg_iinc1 (L2 := [_, _, _, _]) dX3_split_42 (by decide) rfl rfl ?_
      refine zg_goto (tgt := 24) dX3_split_45 (by decide) ?_
      exact ih (i + 1) (by omega)
def qsh (w : Nat → Int32) (cn t : Nat) : Nat → Int32 := fun j => if 146 + t < j ∧ j ≤ 146 + cn then w (j - 1) else w j
theorem qsh_0 (w : Nat → Int32) (cn : Nat) : qsh w cn cn = w := by
  funext j
  rw [qsh, if_neg (by omega)]
theorem qsh_1 (w : Nat → Int32) {cn t : Nat} (h : t + 1 ≤ cn) : upd (qsh w cn (t + 1)) (146 + (t + 1)) (w (146 + t)) = qsh w cn t := by
  funext j
  by_cases hj : j = 146 + (t + 1)
  · subst hj
    rw [upd_s, qsh, if_pos (by omega), show 146 + (t + 1) - 1 = 146 + t by omega]
  · rw [upd_n hj]
    unfold qsh
    by_cases h2 : 146 + (t + 1) < j ∧ j ≤ 146 + cn
    · rw [if_pos h2, if_pos (by omega)]
    · rw [if_neg h2, if_neg (by omega)]
theorem qsh_ins (w : Nat → Int32) {cn t : Nat} (h : t ≤ cn) : upd (qsh w cn t) (146 + t) (nI cn) = qins w cn t := by
  funext j
  by_cases hj : j = 146 + t
  · subst hj
    rw [upd_s, qins, if_neg (by omega), if_pos rfl]
  · rw [upd_n hj, qsh, qins, if_neg hj]
set_option maxRecDepth 20000 in
theorem lm_split82 {S : zS} {m : Nat} (hS : MS S m) (mu : zU) (w : Nat → Int32) {pp cn pl : Nat} (hp4 : pp < 4) (hc4 : cn < 4) (hpl : 1 ≤ pl) (hat : w (145 + pl) = nI pp) (hno : ∀ t, pl < t → t ≤ cn → ∃ q, q < 4 ∧ q ≠ pp ∧ w (145 + t) = nI q) (Ph : Option zV → zS → zU → Prop)
    (hx : zG RX3 "split" cX3_split 4 none (zroom 2 0 0) 0 0 Ph 126 [some (.inr (m + 1)), some (.inl (nI pp)), some (.inl (nI cn)), some (.inl (nI pl))] [] S (zrow mu (m + 1) (qsh w cn pl)) 0 0) :
    ∀ (d t : Nat), pl + d = t → t ≤ cn → zG RX3 "split" cX3_split 4 none (zroom 2 0 0) 0 0 Ph 82 [some (.inr (m + 1)), some (.inl (nI pp)), some (.inl (nI cn)), some (.inl (nI t))] [] S (zrow mu (m + 1) (qsh w cn t)) 0 0 := by
  obtain ⟨⟨hN, k0, k1, -⟩, r0, -⟩ := id hS
  have hN0 : m < S.1 := by omega
  have hN1 : m + 1 < S.1 := by omega
  intro d
  induction d with
  | zero =>
    intro t ht htc
    obtain rfl : t = pl := by omega
    refine zg_aload_n (i := 0) dX3_split_82 rfl rfl ?_
    refine zg_getR dX3_split_83 flX3_7 (by decide) (by assumption) (by assumption) (by assumption) ?_
    refine zg_sipush (v := nI 146) dX3_split_86 (by decide) ?_
    refine zg_iload_n (i := 3) dX3_split_89 rfl rfl ?_
    first | with_reducible refine zg_iaddN dX3_split_90 ?_ | refine zg_iadd dX3_split_90 ?_
    refine zg_iconst (v := nI 1) dX3_split_91 (by decide) ?_
    first | with_reducible refine zg_isubN dX3_split_92 (by omega) ?_ | refine zg_isub dX3_split_92 ?_
    first | with_reducible refine zg_ialdR dX3_split_93 (by assumption) (by assumption) rfl (by omega) (by decide) ?_ | refine zg_iald dX3_split_93 (by assumption) (by assumption) rfl (by omega) (by decide) ?_
    refine zg_val (y := nI pp) (by rw [qsh, if_neg (by omega), show 146 + t - 1 = 145 + t by omega]; exact hat) ?_
    refine zg_iload_n (i := 1) dX3_split_94 rfl rfl ?_
    first | with_reducible refine zg_icmpN_eq (tgt := 126) dX3_split_95 (by decide) (by omega) (by omega) (fun c2 => ?_) (fun c2 => ?_) | refine zg_icmp_eq (tgt := 126) dX3_split_95 (by decide) (fun c2 => ?_) (fun c2 => ?_)
    · exact hx
    · exact absurd rfl c2
  | succ d ih =>
    intro t ht htc
    obtain ⟨q, hq4, hqp, hq⟩ := hno t (by omega) htc
    refine zg_aload_n (i := 0) dX3_split_82 rfl rfl ?_
    refine zg_getR dX3_split_83 flX3_7 (by decide) (by assumption) (by assumption) (by assumption) ?_
    refine zg_sipush (v := nI 146) dX3_split_86 (by decide) ?_
    refine zg_iload_n (i := 3) dX3_split_89 rfl rfl ?_
    first | with_reducible refine zg_iaddN dX3_split_90 ?_ | refine zg_iadd dX3_split_90 ?_
    refine zg_iconst (v := nI 1) dX3_split_91 (by decide) ?_
    first | with_reducible refine zg_isubN dX3_split_92 (by omega) ?_ | refine zg_isub dX3_split_92 ?_
    first | with_reducible refine zg_ialdR dX3_split_93 (by assumption) (by assumption) rfl (by omega) (by decide) ?_ | refine zg_iald dX3_split_93 (by assumption) (by assumption) rfl (by omega) (by decide) ?_
    refine zg_val (y := nI q) (by rw [qsh, if_neg (by omega), show 146 + t - 1 = 145 + t by omega]; exact hq) ?_
    refine zg_iload_n (i := 1) dX3_split_94 rfl rfl ?_
    first | with_reducible refine zg_icmpN_eq (tgt := 126) dX3_split_95 (by decide) (by omega) (by omega) (fun c2 => ?_) (fun c2 => ?_) | refine zg_icmp_eq (tgt := 126) dX3_split_95 (by decide) (fun c2 => ?_) (fun c2 => ?_)
    · exact absurd c2 hqp
    · refine zg_aload_n (i := 0) dX3_split_98 rfl rfl ?_
      refine zg_getR dX3_split_99 flX3_7 (by decide) (by assumption) (by assumption) (by assumption) ?_
      refine zg_sipush (v := nI 146) dX3_split_102 (by decide) ?_
      refine zg_iload_n (i := 3) dX3_split_105 rfl rfl ?_
      first | with_reducible refine zg_iaddN dX3_split_106 ?_ | refine zg_iadd dX3_split_106 ?_
      refine zg_aload_n (i := 0) dX3_split_107 rfl rfl ?_
      refine zg_getR dX3_split_108 flX3_7 (by decide) (by assumption) (by assumption) (by assumption) ?_
      refine zg_sipush (v := nI 146) dX3_split_111 (by decide) ?_
      refine zg_iload_n (i := 3) dX3_split_114 rfl rfl ?_
      first | with_reducible refine zg_iaddN dX3_split_115 ?_ | refine zg_iadd dX3_split_115 ?_
      refine zg_iconst (v := nI 1) dX3_split_116 (by decide) ?_
      first | with_reducible refine zg_isubN dX3_split_117 (by omega) ?_ | refine zg_isub dX3_split_117 ?_
      first | with_reducible refine zg_ialdR dX3_split_118 (by assumption) (by assumption) rfl (by omega) (by decide) ?_ | refine zg_iald dX3_split_118 (by assumption) (by assumption) rfl (by omega) (by decide) ?_
      refine zg_val (y := w (146 + (t - 1))) (by rw [qsh, if_neg (by omega), show 146 + t - 1 = 146 + (t - 1) by omega]) ?_
      first | with_reducible refine zg_iastR dX3_split_119 (by assumption) (by assumption) rfl (by omega) (by decide) ?_ | refine zg_iast dX3_split_119 (by assumption) (by assumption) rfl (by omega) (by decide) ?_
      obtain ⟨t', rfl⟩ : ∃ t', t = t' + 1 := ⟨t - 1, by omega⟩
      rw [Nat.add_sub_cancel, qsh_1 w htc]
      refine zg_iincm (L2 := [_, _, _, _]) dX3_split_120 (by decide) rfl (by omega) rfl ?_
      refine zg_goto (tgt := 82) dX3_split_123 (by decide) ?_
      exact ih t' (by omega) (by omega)
set_option maxRecDepth 20000 in
theorem cm_split {S : zS} {m : Nat} (hS : MS S m) (mu : zU) {v : Nat → Int32} {ol : List Nat} {pp i : Nat} (hV : VI v ol) (hi : ol[i]? = some pp) : zM yX3_split cX3_split 4 none 2 0 0 [.inr (m + 1), .inl (nI pp)] S (zrow mu (m + 1) v) (zPv S (fun mu2 => mu2 = zrow mu (m + 1) (qsplit v pp))) := by
  obtain ⟨⟨hN, k0, k1, -⟩, r0, -⟩ := id hS
  have hN0 : m < S.1 := by omega
  have hN1 : m + 1 < S.1 := by omega
  obtain ⟨⟨h145, hl1, hl4⟩, h4, h5, h6, h7, -⟩ := id hV
  have hil := (List.getElem?_eq_some_iff.mp hi).1
  have hpl := qplace_at hV hi ol.length hil (Nat.le_refl _)
  have hpp := (h4 i pp hi).2
  refine zM.ofG (by decide +kernel) (Nat.le_of_ble_eq_true rfl) ?_
  rw [qsplit, zn_of h145 (by omega)]
  refine zg_aload_n (i := 0) dX3_split_0 rfl rfl ?_
  refine zg_getR dX3_split_1 flX3_7 (by decide) (by assumption) (by assumption) (by assumption) ?_
  refine zg_sipush (v := nI 145) dX3_split_4 (by decide) ?_
  first | with_reducible refine zg_ialdR dX3_split_7 (by assumption) (by assumption) rfl (by omega) (by decide) ?_ | refine zg_iald dX3_split_7 (by assumption) (by assumption) rfl (by omega) (by decide) ?_
  refine zg_val h145 ?_
  refine zg_iconst (v := nI 4) dX3_split_8 (by decide) ?_
  first | with_reducible refine zg_icmpN_ne (tgt := 13) dX3_split_9 (by decide) (by omega) (by omega) (fun c => ?_) (fun c => ?_) | refine zg_icmp_ne (tgt := 13) dX3_split_9 (by decide) (fun c => ?_) (fun c => ?_)
  · rw [if_neg c]
    refine zg_aload_n (i := 0) dX3_split_13 rfl rfl ?_
    refine zg_getR dX3_split_14 flX3_7 (by decide) (by assumption) (by assumption) (by assumption) ?_
    refine zg_sipush (v := nI 145) dX3_split_17 (by decide) ?_
    first | with_reducible refine zg_ialdR dX3_split_20 (by assumption) (by assumption) rfl (by omega) (by decide) ?_ | refine zg_iald dX3_split_20 (by assumption) (by assumption) rfl (by omega) (by decide) ?_
    refine zg_val h145 ?_
    refine zg_istore_n (i := 2) (L2 := [_, _, _, _]) dX3_split_21 rfl (by decide) rfl ?_
    refine zg_iconst (v := nI 0) dX3_split_22 (by decide) ?_
    refine zg_istore_n (i := 3) (L2 := [_, _, _, _]) dX3_split_23 rfl (by decide) rfl ?_
    refine zg_mu (mu2 := zrow mu (m + 1) (qcopyi v (150 + 25 * pp) (150 + 25 * ol.length) 0)) (by rw [qcopyi_0]) ?_
    refine lm_split24 hS mu v hpp (by omega) _ ?_ 25 0 rfl
    obtain ⟨x, y, dr, ss, sl, ns, s0, s1, s2, hP⟩ := h7 pp hpp
    have hP2 := ((PI_copy (b := 150 + 25 * ol.length) hP).stat (d := 0) (by omega)).slp (d := 0) (by omega)
    have hP3 := (hP2.turn 2).2
    refine zg_aload_n (i := 0) dX3_split_48 rfl rfl ?_
    refine zg_iload_n (i := 2) dX3_split_49 rfl rfl ?_
    refine zg_iconst (v := nI 3) dX3_split_50 (by decide) ?_
    refine zg_iconst (v := nI 0) dX3_split_51 (by decide) ?_
    refine zg_callVv (cm_put hS mu _ (p := ol.length) (w := 3) (by omega) _) dX3_split_52 cvX3_put mlX3_80 rfl (by assumption) (by assumption) rfl (Nat.le_of_ble_eq_true rfl) ⟨by decide, by decide⟩ ⟨Nat.le_refl _, Nat.le_refl _⟩ (fun mu2 h2 => ?_)
    subst h2
    refine zg_aload_n (i := 0) dX3_split_55 rfl rfl ?_
    refine zg_iload_n (i := 2) dX3_split_56 rfl rfl ?_
    refine zg_iconst (v := nI 4) dX3_split_57 (by decide) ?_
    refine zg_iconst (v := nI 0) dX3_split_58 (by decide) ?_
    refine zg_callVv (cm_put hS mu _ (p := ol.length) (w := 4) (by omega) _) dX3_split_59 cvX3_put mlX3_80 rfl (by assumption) (by assumption) rfl (Nat.le_of_ble_eq_true rfl) ⟨by decide, by decide⟩ ⟨Nat.le_refl _, Nat.le_refl _⟩ (fun mu2 h2 => ?_)
    subst h2
    refine zg_aload_n (i := 0) dX3_split_62 rfl rfl ?_
    refine zg_iload_n (i := 2) dX3_split_63 rfl rfl ?_
    refine zg_iconst (v := nI 2) dX3_split_64 (by decide) ?_
    refine zg_callVv (cm_turn hS mu (by omega) hP2 (n := 2) (by omega)) dX3_split_65 cvX3_turn mlX3_93 rfl (by assumption) (by assumption) rfl (Nat.le_of_ble_eq_true rfl) ⟨by decide, by decide⟩ ⟨Nat.le_refl _, Nat.le_refl _⟩ (fun mu2 h2 => ?_)
    subst h2
    refine zg_aload_n (i := 0) dX3_split_68 rfl rfl ?_
    refine zg_iload_n (i := 2) dX3_split_69 rfl rfl ?_
    refine zg_callVv (cm_move hS mu (by omega) hP3) dX3_split_70 cvX3_move mlX3_100 rfl (by assumption) (by assumption) rfl (Nat.le_of_ble_eq_true rfl) ⟨by decide, by decide⟩ ⟨Nat.le_refl _, Nat.le_refl _⟩ (fun mu2 h2 => ?_)
    subst h2
    have hb : ∀ j, (j < 150 + 25 * ol.length ∨ 150 + 25 * ol.length + 25 ≤ j) → qborn v (150 + 25 * pp) (150 + 25 * ol.length) j = v j := fun j hj => qborn_out hj
    rw [qsplit2]
    change zG _ _ _ _ _ _ _ _ _ _ _ _ _ (zrow mu (m + 1) (qborn v (150 + 25 * pp) (150 + 25 * ol.length))) _ _
    generalize qborn v (150 + 25 * pp) (150 + 25 * ol.length) = u at *
    refine zg_aload_n (i := 0) dX3_split_73 rfl rfl ?_
    refine zg_getR dX3_split_74 flX3_7 (by decide) (by assumption) (by assumption) (by assumption) ?_
    refine zg_sipush (v := nI 145) dX3_split_77 (by decide) ?_
    first | with_reducible refine zg_ialdR dX3_split_80 (by assumption) (by assumption) rfl (by omega) (by decide) ?_ | refine zg_iald dX3_split_80 (by assumption) (by assumption) rfl (by omega) (by decide) ?_
    refine zg_val (y := nI ol.length) (by rw [hb _ (by omega)]; exact h145) ?_
    refine zg_istore_n (i := 3) (L2 := [_, _, _, _]) dX3_split_81 rfl (by decide) rfl ?_
    refine zg_mu (mu2 := zrow mu (m + 1) (qsh u ol.length ol.length)) (by rw [qsh_0]) ?_
    refine lm_split82 hS mu u (pl := i + 1) (by omega) (by omega) (by omega) ?_ ?_ _ ?_ (ol.length - (i + 1)) ol.length (by omega) (Nat.le_refl _)
    · rw [hb _ (by omega), show 145 + (i + 1) = 146 + i by omega]; exact (h4 i pp hi).1
    · intro t h1 h2
      have hq := List.getElem?_eq_getElem (show t - 1 < ol.length by omega)
      have h3 := h4 (t - 1) _ hq
      refine ⟨ol[t - 1]'(by omega), by omega, fun e => ?_, by rw [hb _ (by omega), show 145 + t = 146 + (t - 1) by omega]; exact h3.1⟩
      rw [e] at hq
      have := h5 _ _ pp hi hq
      omega
    · refine zg_aload_n (i := 0) dX3_split_126 rfl rfl ?_
      refine zg_getR dX3_split_127 flX3_7 (by decide) (by assumption) (by assumption) (by assumption) ?_
      refine zg_sipush (v := nI 146) dX3_split_130 (by decide) ?_
      refine zg_iload_n (i := 3) dX3_split_133 rfl rfl ?_
      first | with_reducible refine zg_iaddN dX3_split_134 ?_ | refine zg_iadd dX3_split_134 ?_
      refine zg_iload_n (i := 2) dX3_split_135 rfl rfl ?_
      first | with_reducible refine zg_iastR dX3_split_136 (by assumption) (by assumption) rfl (by omega) (by decide) ?_ | refine zg_iast dX3_split_136 (by assumption) (by assumption) rfl (by omega) (by decide) ?_
      rw [qsh_ins u (by omega)]
      refine zg_aload_n (i := 0) dX3_split_137 rfl rfl ?_
      refine zg_getR dX3_split_138 flX3_7 (by decide) (by assumption) (by assumption) (by assumption) ?_
      refine zg_sipush (v := nI 145) dX3_split_141 (by decide) ?_
      refine zg_dup2 dX3_split_144 ?_
      first | with_reducible refine zg_ialdR dX3_split_145 (by assumption) (by assumption) rfl (by omega) (by decide) ?_ | refine zg_iald dX3_split_145 (by assumption) (by assumption) rfl (by omega) (by decide) ?_
      refine zg_val (y := nI ol.length) (by rw [qins, if_neg (by omega), if_neg (by omega), hb _ (by omega)]; exact h145) ?_
      refine zg_iconst (v := nI 1) dX3_split_146 (by decide) ?_
      first | with_reducible refine zg_iaddN dX3_split_147 ?_ | refine zg_iadd dX3_split_147 ?_
      first | with_reducible refine zg_iastR dX3_split_148 (by assumption) (by assumption) rfl (by omega) (by decide) ?_ | refine zg_iast dX3_split_148 (by assumption) (by assumption) rfl (by omega) (by decide) ?_
      refine zg_vret dX3_split_149 rfl ⟨rfl, rfl, ?_⟩
      show zrow _ _ _ = zrow _ _ _
      rw [hpl]
  · rw [if_pos c]
    exact zg_vret dX3_split_12 rfl ⟨rfl, rfl, rfl⟩
end
section
/-! THE REFERENCE: execute -/
theorem tb_exec : ∀ i : Nat, i < 94 → i ∉ [0, 2, 3, 4, 9, 10, 12, 13, 14, 25, 27, 29, 31, 58, 59, 60, 61, 62, 63, 70, 79, 81, 83, 85, 86, 90, 91, 92, 93] → (#[418, 672, 575, 455, 390, 672, 672, 672, 672, 390, 390, 672, 390, 599, 390, 672, 672, 672, 672, 672, 672, 672, 672, 672, 672, 439, 672, 484, 672, 464, 672, 662, 672, 672, 672, 672, 672, 672, 672, 672, 672, 672, 672, 672, 672, 672, 672, 672, 672, 672, 672, 672, 672, 672, 672, 672, 672, 672, 548, 447, 557, 494, 504, 390, 672, 672, 672, 672, 672, 672, 583, 672, 672, 672, 672, 672, 672, 672, 672, 591, 672, 566, 672, 638, 672, 474, 619, 672, 672, 672, 646, 526, 654, 611] : Array Int)[i]? = some 672 := by decide
set_option maxRecDepth 20000 in
theorem lm_ex43 {S : zS} {m : Nat} (hS : MS S m) (mu : zU) {v : Nat → Int32} {ol : List Nat} {pp i : Nat} (hV : VI v ol) (hi : ol[i]? = some pp) : zG RX3 "execute" cX3_execute 5 none (zroom 4 0 0) 0 0 (zPv S (fun mu2 => mu2 = zrow mu (m + 1) (qexec v pp (nI 43)))) 412 [some (.inr (m + 1)), some (.inl (nI pp)), some (.inl (nI 43)), none, none] [] S (zrow mu (m + 1) v) 0 0 := by
  obtain ⟨⟨hN, k0, k1, -⟩, r0, -⟩ := id hS
  have hN0 : m < S.1 := by omega
  have hN1 : m + 1 < S.1 := by omega
  have hpp := (hV.2.1 i pp hi).2
  have hl4 := hV.1.2.2
  obtain ⟨x, y, dr, ss, sl, ns, s0, s1, s2, hP⟩ := hV.2.2.2.2.1 pp hpp
  obtain ⟨t0, t1, t2, hQ, -⟩ := hP.pop1
  obtain ⟨u0, u1, u2, hU, -⟩ := hQ.pop1
  refine zg_aload_n (i := 0) dX3_execute_412 rfl rfl ?_
  refine zg_iload_n (i := 1) dX3_execute_413 rfl rfl ?_
  refine zg_callVi (cm_pop hS mu (by omega) hP) dX3_execute_414 cvX3_pop mlX3_87 rfl (by assumption) (by assumption) rfl (Nat.le_of_ble_eq_true rfl) ⟨by decide, by decide⟩ ⟨Nat.le_refl _, Nat.le_refl _⟩ (fun r mu2 h2 => ?_)
  obtain ⟨rfl, rfl⟩ := h2
  refine zg_istore_n (i := 3) (L2 := [_, _, _, _, _]) dX3_execute_417 rfl (by decide) rfl ?_
  refine zg_aload_n (i := 0) dX3_execute_418 rfl rfl ?_
  refine zg_iload_n (i := 1) dX3_execute_419 rfl rfl ?_
  refine zg_callVi (cm_pop hS mu (by omega) hQ) dX3_execute_420 cvX3_pop mlX3_87 rfl (by assumption) (by assumption) rfl (Nat.le_of_ble_eq_true rfl) ⟨by decide, by decide⟩ ⟨Nat.le_refl _, Nat.le_refl _⟩ (fun r mu2 h2 => ?_)
  obtain ⟨rfl, rfl⟩ := h2
  refine zg_istore (L2 := [_, _, _, _, _]) dX3_execute_423 (by decide) rfl ?_
  refine zg_aload_n (i := 0) dX3_execute_425 rfl rfl ?_
  refine zg_iload_n (i := 1) dX3_execute_426 rfl rfl ?_
  refine zg_iload_n (i := 2) dX3_execute_427 rfl rfl ?_
  refine zg_iload dX3_execute_428 rfl ?_
  refine zg_iload_n (i := 3) dX3_execute_430 rfl rfl ?_
  refine zg_callSi (cm_operate S _ (nI 43) _ _ (by decide)) dX3_execute_431 ctX3_operate mlX3_107 rfl rfl (Nat.le_of_ble_eq_true rfl) ⟨by decide, by decide⟩ ⟨Nat.le_refl _, Nat.le_refl _⟩ (fun r mu2 h2 => ?_)
  obtain ⟨rfl, rfl⟩ := h2
  refine zg_callVv (cm_push hS mu (by omega) hU _) dX3_execute_434 cvX3_push mlX3_97 rfl (by assumption) (by assumption) rfl (Nat.le_of_ble_eq_true rfl) ⟨by decide, by decide⟩ ⟨Nat.le_refl _, Nat.le_refl _⟩ (fun mu2 h2 => ?_)
  subst h2
  refine zg_goto (tgt := 694) dX3_execute_437 (by decide) ?_
  exact zg_vret dX3_execute_694 rfl ⟨rfl, rfl, by rw [qx_43, qbin]⟩
set_option maxRecDepth 20000 in
theorem lm_ex45 {S : zS} {m : Nat} (hS : MS S m) (mu : zU) {v : Nat → Int32} {ol : List Nat} {pp i : Nat} (hV : VI v ol) (hi : ol[i]? = some pp) : zG RX3 "execute" cX3_execute 5 none (zroom 4 0 0) 0 0 (zPv S (fun mu2 => mu2 = zrow mu (m + 1) (qexec v pp (nI 45)))) 412 [some (.inr (m + 1)), some (.inl (nI pp)), some (.inl (nI 45)), none, none] [] S (zrow mu (m + 1) v) 0 0 := by
  obtain ⟨⟨hN, k0, k1, -⟩, r0, -⟩ := id hS
  have hN0 : m < S.1 := by omega
  have hN1 : m + 1 < S.1 := by omega
  have hpp := (hV.2.1 i pp hi).2
  have hl4 := hV.1.2.2
  obtain ⟨x, y, dr, ss, sl, ns, s0, s1, s2, hP⟩ := hV.2.2.2.2.1 pp hpp
  obtain ⟨t0, t1, t2, hQ, -⟩ := hP.pop1
  obtain ⟨u0, u1, u2, hU, -⟩ := hQ.pop1
  refine zg_aload_n (i := 0) dX3_execute_412 rfl rfl ?_
  refine zg_iload_n (i := 1) dX3_execute_413 rfl rfl ?_
  refine zg_callVi (cm_pop hS mu (by omega) hP) dX3_execute_414 cvX3_pop mlX3_87 rfl (by assumption) (by assumption) rfl (Nat.le_of_ble_eq_true rfl) ⟨by decide, by decide⟩ ⟨Nat.le_refl _, Nat.le_refl _⟩ (fun r mu2 h2 => ?_)
  obtain ⟨rfl, rfl⟩ := h2
  refine zg_istore_n (i := 3) (L2 := [_, _, _, _, _]) dX3_execute_417 rfl (by decide) rfl ?_
  refine zg_aload_n (i := 0) dX3_execute_418 rfl rfl ?_
  refine zg_iload_n (i := 1) dX3_execute_419 rfl rfl ?_
  refine zg_callVi (cm_pop hS mu (by omega) hQ) dX3_execute_420 cvX3_pop mlX3_87 rfl (by assumption) (by assumption) rfl (Nat.le_of_ble_eq_true rfl) ⟨by decide, by decide⟩ ⟨Nat.le_refl _, Nat.le_refl _⟩ (fun r mu2 h2 => ?_)
  obtain ⟨rfl, rfl⟩ := h2
  refine zg_istore (L2 := [_, _, _, _, _]) dX3_execute_423 (by decide) rfl ?_
  refine zg_aload_n (i := 0) dX3_execute_425 rfl rfl ?_
  refine zg_iload_n (i := 1) dX3_execute_426 rfl rfl ?_
  refine zg_iload_n (i := 2) dX3_execute_427 rfl rfl ?_
  refine zg_iload dX3_execute_428 rfl ?_
  refine zg_iload_n (i := 3) dX3_execute_430 rfl rfl ?_
  refine zg_callSi (cm_operate S _ (nI 45) _ _ (by decide)) dX3_execute_431 ctX3_operate mlX3_107 rfl rfl (Nat.le_of_ble_eq_true rfl) ⟨by decide, by decide⟩ ⟨Nat.le_refl _, Nat.le_refl _⟩ (fun r mu2 h2 => ?_)
  obtain ⟨rfl, rfl⟩ := h2
  refine zg_callVv (cm_push hS mu (by omega) hU _) dX3_execute_434 cvX3_push mlX3_97 rfl (by assumption) (by assumption) rfl (Nat.le_of_ble_eq_true rfl) ⟨by decide, by decide⟩ ⟨Nat.le_refl _, Nat.le_refl _⟩ (fun mu2 h2 => ?_)
  subst h2
  refine zg_goto (tgt := 694) dX3_execute_437 (by decide) ?_
  exact zg_vret dX3_execute_694 rfl ⟨rfl, rfl, by rw [qx_45, qbin]⟩
set_option maxRecDepth 20000 in
theorem lm_ex42 {S : zS} {m : Nat} (hS : MS S m) (mu : zU) {v : Nat → Int32} {ol : List Nat} {pp i : Nat} (hV : VI v ol) (hi : ol[i]? = some pp) : zG RX3 "execute" cX3_execute 5 none (zroom 4 0 0) 0 0 (zPv S (fun mu2 => mu2 = zrow mu (m + 1) (qexec v pp (nI 42)))) 412 [some (.inr (m + 1)), some (.inl (nI pp)), some (.inl (nI 42)), none, none] [] S (zrow mu (m + 1) v) 0 0 := by
  obtain ⟨⟨hN, k0, k1, -⟩, r0, -⟩ := id hS
  have hN0 : m < S.1 := by omega
  have hN1 : m + 1 < S.1 := by omega
  have hpp := (hV.2.1 i pp hi).2
  have hl4 := hV.1.2.2
  obtain ⟨x, y, dr, ss, sl, ns, s0, s1, s2, hP⟩ := hV.2.2.2.2.1 pp hpp
  obtain ⟨t0, t1, t2, hQ, -⟩ := hP.pop1
  obtain ⟨u0, u1, u2, hU, -⟩ := hQ.pop1
  refine zg_aload_n (i := 0) dX3_execute_412 rfl rfl ?_
  refine zg_iload_n (i := 1) dX3_execute_413 rfl rfl ?_
  refine zg_callVi (cm_pop hS mu (by omega) hP) dX3_execute_414 cvX3_pop mlX3_87 rfl (by assumption) (by assumption) rfl (Nat.le_of_ble_eq_true rfl) ⟨by decide, by decide⟩ ⟨Nat.le_refl _, Nat.le_refl _⟩ (fun r mu2 h2 => ?_)
  obtain ⟨rfl, rfl⟩ := h2
  refine zg_istore_n (i := 3) (L2 := [_, _, _, _, _]) dX3_execute_417 rfl (by decide) rfl ?_
  refine zg_aload_n (i := 0) dX3_execute_418 rfl rfl ?_
  refine zg_iload_n (i := 1) dX3_execute_419 rfl rfl ?_
  refine zg_callVi (cm_pop hS mu (by omega) hQ) dX3_execute_420 cvX3_pop mlX3_87 rfl (by assumption) (by assumption) rfl (Nat.le_of_ble_eq_true rfl) ⟨by decide, by decide⟩ ⟨Nat.le_refl _, Nat.le_refl _⟩ (fun r mu2 h2 => ?_)
  obtain ⟨rfl, rfl⟩ := h2
  refine zg_istore (L2 := [_, _, _, _, _]) dX3_execute_423 (by decide) rfl ?_
  refine zg_aload_n (i := 0) dX3_execute_425 rfl rfl ?_
  refine zg_iload_n (i := 1) dX3_execute_426 rfl rfl ?_
  refine zg_iload_n (i := 2) dX3_execute_427 rfl rfl ?_
  refine zg_iload dX3_execute_428 rfl ?_
  refine zg_iload_n (i := 3) dX3_execute_430 rfl rfl ?_
  refine zg_callSi (cm_operate S _ (nI 42) _ _ (by decide)) dX3_execute_431 ctX3_operate mlX3_107 rfl rfl (Nat.le_of_ble_eq_true rfl) ⟨by decide, by decide⟩ ⟨Nat.le_refl _, Nat.le_refl _⟩ (fun r mu2 h2 => ?_)
  obtain ⟨rfl, rfl⟩ := h2
  refine zg_callVv (cm_push hS mu (by omega) hU _) dX3_execute_434 cvX3_push mlX3_97 rfl (by assumption) (by assumption) rfl (Nat.le_of_ble_eq_true rfl) ⟨by decide, by decide⟩ ⟨Nat.le_refl _, Nat.le_refl _⟩ (fun mu2 h2 => ?_)
  subst h2
  refine zg_goto (tgt := 694) dX3_execute_437 (by decide) ?_
  exact zg_vret dX3_execute_694 rfl ⟨rfl, rfl, by rw [qx_42, qbin]⟩
set_option maxRecDepth 20000 in
theorem lm_ex47 {S : zS} {m : Nat} (hS : MS S m) (mu : zU) {v : Nat → Int32} {ol : List Nat} {pp i : Nat} (hV : VI v ol) (hi : ol[i]? = some pp) : zG RX3 "execute" cX3_execute 5 none (zroom 4 0 0) 0 0 (zPv S (fun mu2 => mu2 = zrow mu (m + 1) (qexec v pp (nI 47)))) 412 [some (.inr (m + 1)), some (.inl (nI pp)), some (.inl (nI 47)), none, none] [] S (zrow mu (m + 1) v) 0 0 := by
  obtain ⟨⟨hN, k0, k1, -⟩, r0, -⟩ := id hS
  have hN0 : m < S.1 := by omega
  have hN1 : m + 1 < S.1 := by omega
  have hpp := (hV.2.1 i pp hi).2
  have hl4 := hV.1.2.2
  obtain ⟨x, y, dr, ss, sl, ns, s0, s1, s2, hP⟩ := hV.2.2.2.2.1 pp hpp
  obtain ⟨t0, t1, t2, hQ, -⟩ := hP.pop1
  obtain ⟨u0, u1, u2, hU, -⟩ := hQ.pop1
  refine zg_aload_n (i := 0) dX3_execute_412 rfl rfl ?_
  refine zg_iload_n (i := 1) dX3_execute_413 rfl rfl ?_
  refine zg_callVi (cm_pop hS mu (by omega) hP) dX3_execute_414 cvX3_pop mlX3_87 rfl (by assumption) (by assumption) rfl (Nat.le_of_ble_eq_true rfl) ⟨by decide, by decide⟩ ⟨Nat.le_refl _, Nat.le_refl _⟩ (fun r mu2 h2 => ?_)
  obtain ⟨rfl, rfl⟩ := h2
  refine zg_istore_n (i := 3) (L2 := [_, _, _, _, _]) dX3_execute_417 rfl (by decide) rfl ?_
  refine zg_aload_n (i := 0) dX3_execute_418 rfl rfl ?_
  refine zg_iload_n (i := 1) dX3_execute_419 rfl rfl ?_
  refine zg_callVi (cm_pop hS mu (by omega) hQ) dX3_execute_420 cvX3_pop mlX3_87 rfl (by assumption) (by assumption) rfl (Nat.le_of_ble_eq_true rfl) ⟨by decide, by decide⟩ ⟨Nat.le_refl _, Nat.le_refl _⟩ (fun r mu2 h2 => ?_)
  obtain ⟨rfl, rfl⟩ := h2
  refine zg_istore (L2 := [_, _, _, _, _]) dX3_execute_423 (by decide) rfl ?_
  refine zg_aload_n (i := 0) dX3_execute_425 rfl rfl ?_
  refine zg_iload_n (i := 1) dX3_execute_426 rfl rfl ?_
  refine zg_iload_n (i := 2) dX3_execute_427 rfl rfl ?_
  refine zg_iload dX3_execute_428 rfl ?_
  refine zg_iload_n (i := 3) dX3_execute_430 rfl rfl ?_
  refine zg_callSi (cm_operate S _ (nI 47) _ _ (by decide)) dX3_execute_431 ctX3_operate mlX3_107 rfl rfl (Nat.le_of_ble_eq_true rfl) ⟨by decide, by decide⟩ ⟨Nat.le_refl _, Nat.le_refl _⟩ (fun r mu2 h2 => ?_)
  obtain ⟨rfl, rfl⟩ := h2
  refine zg_callVv (cm_push hS mu (by omega) hU _) dX3_execute_434 cvX3_push mlX3_97 rfl (by assumption) (by assumption) rfl (Nat.le_of_ble_eq_true rfl) ⟨by decide, by decide⟩ ⟨Nat.le_refl _, Nat.le_refl _⟩ (fun mu2 h2 => ?_)
  subst h2
  refine zg_goto (tgt := 694) dX3_execute_437 (by decide) ?_
  exact zg_vret dX3_execute_694 rfl ⟨rfl, rfl, by rw [qx_47, qbin]⟩
set_option maxRecDepth 20000 in
theorem lm_ex37 {S : zS} {m : Nat} (hS : MS S m) (mu : zU) {v : Nat → Int32} {ol : List Nat} {pp i : Nat} (hV : VI v ol) (hi : ol[i]? = some pp) : zG RX3 "execute" cX3_execute 5 none (zroom 4 0 0) 0 0 (zPv S (fun mu2 => mu2 = zrow mu (m + 1) (qexec v pp (nI 37)))) 412 [some (.inr (m + 1)), some (.inl (nI pp)), some (.inl (nI 37)), none, none] [] S (zrow mu (m + 1) v) 0 0 := by
  obtain ⟨⟨hN, k0, k1, -⟩, r0, -⟩ := id hS
  have hN0 : m < S.1 := by omega
  have hN1 : m + 1 < S.1 := by omega
  have hpp := (hV.2.1 i pp hi).2
  have hl4 := hV.1.2.2
  obtain ⟨x, y, dr, ss, sl, ns, s0, s1, s2, hP⟩ := hV.2.2.2.2.1 pp hpp
  obtain ⟨t0, t1, t2, hQ, -⟩ := hP.pop1
  obtain ⟨u0, u1, u2, hU, -⟩ := hQ.pop1
  refine zg_aload_n (i := 0) dX3_execute_412 rfl rfl ?_
  refine zg_iload_n (i := 1) dX3_execute_413 rfl rfl ?_
  refine zg_callVi (cm_pop hS mu (by omega) hP) dX3_execute_414 cvX3_pop mlX3_87 rfl (by assumption) (by assumption) rfl (Nat.le_of_ble_eq_true rfl) ⟨by decide, by decide⟩ ⟨Nat.le_refl _, Nat.le_refl _⟩ (fun r mu2 h2 => ?_)
  obtain ⟨rfl, rfl⟩ := h2
  refine zg_istore_n (i := 3) (L2 := [_, _, _, _, _]) dX3_execute_417 rfl (by decide) rfl ?_
  refine zg_aload_n (i := 0) dX3_execute_418 rfl rfl ?_
  refine zg_iload_n (i := 1) dX3_execute_419 rfl rfl ?_
  refine zg_callVi (cm_pop hS mu (by omega) hQ) dX3_execute_420 cvX3_pop mlX3_87 rfl (by assumption) (by assumption) rfl (Nat.le_of_ble_eq_true rfl) ⟨by decide, by decide⟩ ⟨Nat.le_refl _, Nat.le_refl _⟩ (fun r mu2 h2 => ?_)
  obtain ⟨rfl, rfl⟩ := h2
  refine zg_istore (L2 := [_, _, _, _, _]) dX3_execute_423 (by decide) rfl ?_
  refine zg_aload_n (i := 0) dX3_execute_425 rfl rfl ?_
  refine zg_iload_n (i := 1) dX3_execute_426 rfl rfl ?_
  refine zg_iload_n (i := 2) dX3_execute_427 rfl rfl ?_
  refine zg_iload dX3_execute_428 rfl ?_
  refine zg_iload_n (i := 3) dX3_execute_430 rfl rfl ?_
  refine zg_callSi (cm_operate S _ (nI 37) _ _ (by decide)) dX3_execute_431 ctX3_operate mlX3_107 rfl rfl (Nat.le_of_ble_eq_true rfl) ⟨by decide, by decide⟩ ⟨Nat.le_refl _, Nat.le_refl _⟩ (fun r mu2 h2 => ?_)
  obtain ⟨rfl, rfl⟩ := h2
  refine zg_callVv (cm_push hS mu (by omega) hU _) dX3_execute_434 cvX3_push mlX3_97 rfl (by assumption) (by assumption) rfl (Nat.le_of_ble_eq_true rfl) ⟨by decide, by decide⟩ ⟨Nat.le_refl _, Nat.le_refl _⟩ (fun mu2 h2 => ?_)
  subst h2
  refine zg_goto (tgt := 694) dX3_execute_437 (by decide) ?_
  exact zg_vret dX3_execute_694 rfl ⟨rfl, rfl, by rw [qx_37, qbin]⟩
set_option maxRecDepth 20000 in
theorem lm_ex96 {S : zS} {m : Nat} (hS : MS S m) (mu : zU) {v : Nat → Int32} {ol : List Nat} {pp i : Nat} (hV : VI v ol) (hi : ol[i]? = some pp) : zG RX3 "execute" cX3_execute 5 none (zroom 4 0 0) 0 0 (zPv S (fun mu2 => mu2 = zrow mu (m + 1) (qexec v pp (nI 96)))) 412 [some (.inr (m + 1)), some (.inl (nI pp)), some (.inl (nI 96)), none, none] [] S (zrow mu (m + 1) v) 0 0 := by
  obtain ⟨⟨hN, k0, k1, -⟩, r0, -⟩ := id hS
  have hN0 : m < S.1 := by omega
  have hN1 : m + 1 < S.1 := by omega
  have hpp := (hV.2.1 i pp hi).2
  have hl4 := hV.1.2.2
  obtain ⟨x, y, dr, ss, sl, ns, s0, s1, s2, hP⟩ := hV.2.2.2.2.1 pp hpp
  obtain ⟨t0, t1, t2, hQ, -⟩ := hP.pop1
  obtain ⟨u0, u1, u2, hU, -⟩ := hQ.pop1
  refine zg_aload_n (i := 0) dX3_execute_412 rfl rfl ?_
  refine zg_iload_n (i := 1) dX3_execute_413 rfl rfl ?_
  refine zg_callVi (cm_pop hS mu (by omega) hP) dX3_execute_414 cvX3_pop mlX3_87 rfl (by assumption) (by assumption) rfl (Nat.le_of_ble_eq_true rfl) ⟨by decide, by decide⟩ ⟨Nat.le_refl _, Nat.le_refl _⟩ (fun r mu2 h2 => ?_)
  obtain ⟨rfl, rfl⟩ := h2
  refine zg_istore_n (i := 3) (L2 := [_, _, _, _, _]) dX3_execute_417 rfl (by decide) rfl ?_
  refine zg_aload_n (i := 0) dX3_execute_418 rfl rfl ?_
  refine zg_iload_n (i := 1) dX3_execute_419 rfl rfl ?_
  refine zg_callVi (cm_pop hS mu (by omega) hQ) dX3_execute_420 cvX3_pop mlX3_87 rfl (by assumption) (by assumption) rfl (Nat.le_of_ble_eq_true rfl) ⟨by decide, by decide⟩ ⟨Nat.le_refl _, Nat.le_refl _⟩ (fun r mu2 h2 => ?_)
  obtain ⟨rfl, rfl⟩ := h2
  refine zg_istore (L2 := [_, _, _, _, _]) dX3_execute_423 (by decide) rfl ?_
  refine zg_aload_n (i := 0) dX3_execute_425 rfl rfl ?_
  refine zg_iload_n (i := 1) dX3_execute_426 rfl rfl ?_
  refine zg_iload_n (i := 2) dX3_execute_427 rfl rfl ?_
  refine zg_iload dX3_execute_428 rfl ?_
  refine zg_iload_n (i := 3) dX3_execute_430 rfl rfl ?_
  refine zg_callSi (cm_operate S _ (nI 96) _ _ (by decide)) dX3_execute_431 ctX3_operate mlX3_107 rfl rfl (Nat.le_of_ble_eq_true rfl) ⟨by decide, by decide⟩ ⟨Nat.le_refl _, Nat.le_refl _⟩ (fun r mu2 h2 => ?_)
  obtain ⟨rfl, rfl⟩ := h2
  refine zg_callVv (cm_push hS mu (by omega) hU _) dX3_execute_434 cvX3_push mlX3_97 rfl (by assumption) (by assumption) rfl (Nat.le_of_ble_eq_true rfl) ⟨by decide, by decide⟩ ⟨Nat.le_refl _, Nat.le_refl _⟩ (fun mu2 h2 => ?_)
  subst h2
  refine zg_goto (tgt := 694) dX3_execute_437 (by decide) ?_
  exact zg_vret dX3_execute_694 rfl ⟨rfl, rfl, by rw [qx_96, qbin]⟩
set_option maxRecDepth 20000 in
theorem lm_ex33 {S : zS} {m : Nat} (hS : MS S m) (mu : zU) {v : Nat → Int32} {ol : List Nat} {pp i : Nat} (hV : VI v ol) (hi : ol[i]? = some pp) : zG RX3 "execute" cX3_execute 5 none (zroom 4 0 0) 0 0 (zPv S (fun mu2 => mu2 = zrow mu (m + 1) (qexec v pp (nI 33)))) 440 [some (.inr (m + 1)), some (.inl (nI pp)), some (.inl (nI 33)), none, none] [] S (zrow mu (m + 1) v) 0 0 := by
  obtain ⟨⟨hN, k0, k1, -⟩, r0, -⟩ := id hS
  have hN0 : m < S.1 := by omega
  have hN1 : m + 1 < S.1 := by omega
  have hpp := (hV.2.1 i pp hi).2
  have hl4 := hV.1.2.2
  obtain ⟨x, y, dr, ss, sl, ns, s0, s1, s2, hP⟩ := hV.2.2.2.2.1 pp hpp
  obtain ⟨t0, t1, t2, hQ, -⟩ := hP.pop1
  refine zg_aload_n (i := 0) dX3_execute_440 rfl rfl ?_
  refine zg_iload_n (i := 1) dX3_execute_441 rfl rfl ?_
  refine zg_aload_n (i := 0) dX3_execute_442 rfl rfl ?_
  refine zg_iload_n (i := 1) dX3_execute_443 rfl rfl ?_
  refine zg_callVi (cm_pop hS mu (by omega) hP) dX3_execute_444 cvX3_pop mlX3_87 rfl (by assumption) (by assumption) rfl (Nat.le_of_ble_eq_true rfl) ⟨by decide, by decide⟩ ⟨Nat.le_refl _, Nat.le_refl _⟩ (fun r mu2 h2 => ?_)
  obtain ⟨rfl, rfl⟩ := h2
  refine zg_if_ne (tgt := 454) dX3_execute_447 (by decide) (fun cz => ?_) (fun cz => ?_)
  · refine zg_iconst (v := nI 0) dX3_execute_454 (by decide) ?_
    refine zg_callVv (cm_push hS mu (by omega) hQ _) dX3_execute_455 cvX3_push mlX3_97 rfl (by assumption) (by assumption) rfl (Nat.le_of_ble_eq_true rfl) ⟨by decide, by decide⟩ ⟨Nat.le_refl _, Nat.le_refl _⟩ (fun mu2 h2 => ?_)
    subst h2
    refine zg_goto (tgt := 694) dX3_execute_458 (by decide) ?_
    exact zg_vret dX3_execute_694 rfl ⟨rfl, rfl, by rw [qx_33, if_neg cz]⟩
  · refine zg_iconst (v := nI 1) dX3_execute_450 (by decide) ?_
    refine zg_goto (tgt := 455) dX3_execute_451 (by decide) ?_
    refine zg_callVv (cm_push hS mu (by omega) hQ _) dX3_execute_455 cvX3_push mlX3_97 rfl (by assumption) (by assumption) rfl (Nat.le_of_ble_eq_true rfl) ⟨by decide, by decide⟩ ⟨Nat.le_refl _, Nat.le_refl _⟩ (fun mu2 h2 => ?_)
    subst h2
    refine zg_goto (tgt := 694) dX3_execute_458 (by decide) ?_
    exact zg_vret dX3_execute_694 rfl ⟨rfl, rfl, by rw [qx_33, if_pos cz]⟩
set_option maxRecDepth 20000 in
theorem lm_ex58 {S : zS} {m : Nat} (hS : MS S m) (mu : zU) {v : Nat → Int32} {ol : List Nat} {pp i : Nat} (hV : VI v ol) (hi : ol[i]? = some pp) : zG RX3 "execute" cX3_execute 5 none (zroom 4 0 0) 0 0 (zPv S (fun mu2 => mu2 = zrow mu (m + 1) (qexec v pp (nI 58)))) 461 [some (.inr (m + 1)), some (.inl (nI pp)), some (.inl (nI 58)), none, none] [] S (zrow mu (m + 1) v) 0 0 := by
  obtain ⟨⟨hN, k0, k1, -⟩, r0, -⟩ := id hS
  have hN0 : m < S.1 := by omega
  have hN1 : m + 1 < S.1 := by omega
  have hpp := (hV.2.1 i pp hi).2
  have hl4 := hV.1.2.2
  obtain ⟨x, y, dr, ss, sl, ns, s0, s1, s2, hP⟩ := hV.2.2.2.2.1 pp hpp
  obtain ⟨t0, t1, t2, hQ, -⟩ := hP.pop1
  refine zg_aload_n (i := 0) dX3_execute_461 rfl rfl ?_
  refine zg_iload_n (i := 1) dX3_execute_462 rfl rfl ?_
  refine zg_callVv (cm_duplicate hS mu (by omega) hP) dX3_execute_463 cvX3_duplicate mlX3_111 rfl (by assumption) (by assumption) rfl (Nat.le_of_ble_eq_true rfl) ⟨by decide, by decide⟩ ⟨Nat.le_refl _, Nat.le_refl _⟩ (fun mu2 h2 => ?_)
  subst h2
  refine zg_goto (tgt := 694) dX3_execute_466 (by decide) ?_
  exact zg_vret dX3_execute_694 rfl ⟨rfl, rfl, by rw [qx_58]⟩
set_option maxRecDepth 20000 in
theorem lm_ex92 {S : zS} {m : Nat} (hS : MS S m) (mu : zU) {v : Nat → Int32} {ol : List Nat} {pp i : Nat} (hV : VI v ol) (hi : ol[i]? = some pp) : zG RX3 "execute" cX3_execute 5 none (zroom 4 0 0) 0 0 (zPv S (fun mu2 => mu2 = zrow mu (m + 1) (qexec v pp (nI 92)))) 469 [some (.inr (m + 1)), some (.inl (nI pp)), some (.inl (nI 92)), none, none] [] S (zrow mu (m + 1) v) 0 0 := by
  obtain ⟨⟨hN, k0, k1, -⟩, r0, -⟩ := id hS
  have hN0 : m < S.1 := by omega
  have hN1 : m + 1 < S.1 := by omega
  have hpp := (hV.2.1 i pp hi).2
  have hl4 := hV.1.2.2
  obtain ⟨x, y, dr, ss, sl, ns, s0, s1, s2, hP⟩ := hV.2.2.2.2.1 pp hpp
  obtain ⟨t0, t1, t2, hQ, -⟩ := hP.pop1
  refine zg_aload_n (i := 0) dX3_execute_469 rfl rfl ?_
  refine zg_iload_n (i := 1) dX3_execute_470 rfl rfl ?_
  refine zg_callVv (cm_swapTop hS mu (by omega) hP) dX3_execute_471 cvX3_swapTop mlX3_114 rfl (by assumption) (by assumption) rfl (Nat.le_of_ble_eq_true rfl) ⟨by decide, by decide⟩ ⟨Nat.le_refl _, Nat.le_refl _⟩ (fun mu2 h2 => ?_)
  subst h2
  refine zg_goto (tgt := 694) dX3_execute_474 (by decide) ?_
  exact zg_vret dX3_execute_694 rfl ⟨rfl, rfl, by rw [qx_92]⟩
set_option maxRecDepth 20000 in
theorem lm_ex36 {S : zS} {m : Nat} (hS : MS S m) (mu : zU) {v : Nat → Int32} {ol : List Nat} {pp i : Nat} (hV : VI v ol) (hi : ol[i]? = some pp) : zG RX3 "execute" cX3_execute 5 none (zroom 4 0 0) 0 0 (zPv S (fun mu2 => mu2 = zrow mu (m + 1) (qexec v pp (nI 36)))) 477 [some (.inr (m + 1)), some (.inl (nI pp)), some (.inl (nI 36)), none, none] [] S (zrow mu (m + 1) v) 0 0 := by
  obtain ⟨⟨hN, k0, k1, -⟩, r0, -⟩ := id hS
  have hN0 : m < S.1 := by omega
  have hN1 : m + 1 < S.1 := by omega
  have hpp := (hV.2.1 i pp hi).2
  have hl4 := hV.1.2.2
  obtain ⟨x, y, dr, ss, sl, ns, s0, s1, s2, hP⟩ := hV.2.2.2.2.1 pp hpp
  obtain ⟨t0, t1, t2, hQ, -⟩ := hP.pop1
  refine zg_aload_n (i := 0) dX3_execute_477 rfl rfl ?_
  refine zg_iload_n (i := 1) dX3_execute_478 rfl rfl ?_
  refine zg_callVi (cm_pop hS mu (by omega) hP) dX3_execute_479 cvX3_pop mlX3_87 rfl (by assumption) (by assumption) rfl (Nat.le_of_ble_eq_true rfl) ⟨by decide, by decide⟩ ⟨Nat.le_refl _, Nat.le_refl _⟩ (fun r mu2 h2 => ?_)
  obtain ⟨rfl, rfl⟩ := h2
  refine zg_pop dX3_execute_482 ?_
  refine zg_goto (tgt := 694) dX3_execute_483 (by decide) ?_
  exact zg_vret dX3_execute_694 rfl ⟨rfl, rfl, by rw [qx_36]⟩
set_option maxRecDepth 20000 in
theorem lm_ex62 {S : zS} {m : Nat} (hS : MS S m) (mu : zU) {v : Nat → Int32} {ol : List Nat} {pp i : Nat} (hV : VI v ol) (hi : ol[i]? = some pp) : zG RX3 "execute" cX3_execute 5 none (zroom 4 0 0) 0 0 (zPv S (fun mu2 => mu2 = zrow mu (m + 1) (qexec v pp (nI 62)))) 486 [some (.inr (m + 1)), some (.inl (nI pp)), some (.inl (nI 62)), none, none] [] S (zrow mu (m + 1) v) 0 0 := by
  obtain ⟨⟨hN, k0, k1, -⟩, r0, -⟩ := id hS
  have hN0 : m < S.1 := by omega
  have hN1 : m + 1 < S.1 := by omega
  have hpp := (hV.2.1 i pp hi).2
  have hl4 := hV.1.2.2
  obtain ⟨x, y, dr, ss, sl, ns, s0, s1, s2, hP⟩ := hV.2.2.2.2.1 pp hpp
  obtain ⟨t0, t1, t2, hQ, -⟩ := hP.pop1
  refine zg_aload_n (i := 0) dX3_execute_486 rfl rfl ?_
  refine zg_iload_n (i := 1) dX3_execute_487 rfl rfl ?_
  refine zg_iconst (v := nI 2) dX3_execute_488 (by decide) ?_
  refine zg_iconst (v := nI 0) dX3_execute_489 (by decide) ?_
  refine zg_callVv (cm_put hS mu v (p := pp) (w := 2) (by omega) _) dX3_execute_490 cvX3_put mlX3_80 rfl (by assumption) (by assumption) rfl (Nat.le_of_ble_eq_true rfl) ⟨by decide, by decide⟩ ⟨Nat.le_refl _, Nat.le_refl _⟩ (fun mu2 h2 => ?_)
  subst h2
  refine zg_goto (tgt := 694) dX3_execute_493 (by decide) ?_
  exact zg_vret dX3_execute_694 rfl ⟨rfl, rfl, by rw [qx_62]⟩
set_option maxRecDepth 20000 in
theorem lm_ex118 {S : zS} {m : Nat} (hS : MS S m) (mu : zU) {v : Nat → Int32} {ol : List Nat} {pp i : Nat} (hV : VI v ol) (hi : ol[i]? = some pp) : zG RX3 "execute" cX3_execute 5 none (zroom 4 0 0) 0 0 (zPv S (fun mu2 => mu2 = zrow mu (m + 1) (qexec v pp (nI 118)))) 496 [some (.inr (m + 1)), some (.inl (nI pp)), some (.inl (nI 118)), none, none] [] S (zrow mu (m + 1) v) 0 0 := by
  obtain ⟨⟨hN, k0, k1, -⟩, r0, -⟩ := id hS
  have hN0 : m < S.1 := by omega
  have hN1 : m + 1 < S.1 := by omega
  have hpp := (hV.2.1 i pp hi).2
  have hl4 := hV.1.2.2
  obtain ⟨x, y, dr, ss, sl, ns, s0, s1, s2, hP⟩ := hV.2.2.2.2.1 pp hpp
  obtain ⟨t0, t1, t2, hQ, -⟩ := hP.pop1
  refine zg_aload_n (i := 0) dX3_execute_496 rfl rfl ?_
  refine zg_iload_n (i := 1) dX3_execute_497 rfl rfl ?_
  refine zg_iconst (v := nI 2) dX3_execute_498 (by decide) ?_
  refine zg_iconst (v := nI 1) dX3_execute_499 (by decide) ?_
  refine zg_callVv (cm_put hS mu v (p := pp) (w := 2) (by omega) _) dX3_execute_500 cvX3_put mlX3_80 rfl (by assumption) (by assumption) rfl (Nat.le_of_ble_eq_true rfl) ⟨by decide, by decide⟩ ⟨Nat.le_refl _, Nat.le_refl _⟩ (fun mu2 h2 => ?_)
  subst h2
  refine zg_goto (tgt := 694) dX3_execute_503 (by decide) ?_
  exact zg_vret dX3_execute_694 rfl ⟨rfl, rfl, by rw [qx_118]⟩
set_option maxRecDepth 20000 in
theorem lm_ex60 {S : zS} {m : Nat} (hS : MS S m) (mu : zU) {v : Nat → Int32} {ol : List Nat} {pp i : Nat} (hV : VI v ol) (hi : ol[i]? = some pp) : zG RX3 "execute" cX3_execute 5 none (zroom 4 0 0) 0 0 (zPv S (fun mu2 => mu2 = zrow mu (m + 1) (qexec v pp (nI 60)))) 506 [some (.inr (m + 1)), some (.inl (nI pp)), some (.inl (nI 60)), none, none] [] S (zrow mu (m + 1) v) 0 0 := by
  obtain ⟨⟨hN, k0, k1, -⟩, r0, -⟩ := id hS
  have hN0 : m < S.1 := by omega
  have hN1 : m + 1 < S.1 := by omega
  have hpp := (hV.2.1 i pp hi).2
  have hl4 := hV.1.2.2
  obtain ⟨x, y, dr, ss, sl, ns, s0, s1, s2, hP⟩ := hV.2.2.2.2.1 pp hpp
  obtain ⟨t0, t1, t2, hQ, -⟩ := hP.pop1
  refine zg_aload_n (i := 0) dX3_execute_506 rfl rfl ?_
  refine zg_iload_n (i := 1) dX3_execute_507 rfl rfl ?_
  refine zg_iconst (v := nI 2) dX3_execute_508 (by decide) ?_
  refine zg_iconst (v := nI 2) dX3_execute_509 (by decide) ?_
  refine zg_callVv (cm_put hS mu v (p := pp) (w := 2) (by omega) _) dX3_execute_510 cvX3_put mlX3_80 rfl (by assumption) (by assumption) rfl (Nat.le_of_ble_eq_true rfl) ⟨by decide, by decide⟩ ⟨Nat.le_refl _, Nat.le_refl _⟩ (fun mu2 h2 => ?_)
  subst h2
  refine zg_goto (tgt := 694) dX3_execute_513 (by decide) ?_
  exact zg_vret dX3_execute_694 rfl ⟨rfl, rfl, by rw [qx_60]⟩
set_option maxRecDepth 20000 in
theorem lm_ex94 {S : zS} {m : Nat} (hS : MS S m) (mu : zU) {v : Nat → Int32} {ol : List Nat} {pp i : Nat} (hV : VI v ol) (hi : ol[i]? = some pp) : zG RX3 "execute" cX3_execute 5 none (zroom 4 0 0) 0 0 (zPv S (fun mu2 => mu2 = zrow mu (m + 1) (qexec v pp (nI 94)))) 516 [some (.inr (m + 1)), some (.inl (nI pp)), some (.inl (nI 94)), none, none] [] S (zrow mu (m + 1) v) 0 0 := by
  obtain ⟨⟨hN, k0, k1, -⟩, r0, -⟩ := id hS
  have hN0 : m < S.1 := by omega
  have hN1 : m + 1 < S.1 := by omega
  have hpp := (hV.2.1 i pp hi).2
  have hl4 := hV.1.2.2
  obtain ⟨x, y, dr, ss, sl, ns, s0, s1, s2, hP⟩ := hV.2.2.2.2.1 pp hpp
  obtain ⟨t0, t1, t2, hQ, -⟩ := hP.pop1
  refine zg_aload_n (i := 0) dX3_execute_516 rfl rfl ?_
  refine zg_iload_n (i := 1) dX3_execute_517 rfl rfl ?_
  refine zg_iconst (v := nI 2) dX3_execute_518 (by decide) ?_
  refine zg_iconst (v := nI 3) dX3_execute_519 (by decide) ?_
  refine zg_callVv (cm_put hS mu v (p := pp) (w := 2) (by omega) _) dX3_execute_520 cvX3_put mlX3_80 rfl (by assumption) (by assumption) rfl (Nat.le_of_ble_eq_true rfl) ⟨by decide, by decide⟩ ⟨Nat.le_refl _, Nat.le_refl _⟩ (fun mu2 h2 => ?_)
  subst h2
  refine zg_goto (tgt := 694) dX3_execute_523 (by decide) ?_
  exact zg_vret dX3_execute_694 rfl ⟨rfl, rfl, by rw [qx_94]⟩
set_option maxRecDepth 20000 in
theorem lm_ex95 {S : zS} {m : Nat} (hS : MS S m) (mu : zU) {v : Nat → Int32} {ol : List Nat} {pp i : Nat} (hV : VI v ol) (hi : ol[i]? = some pp) : zG RX3 "execute" cX3_execute 5 none (zroom 4 0 0) 0 0 (zPv S (fun mu2 => mu2 = zrow mu (m + 1) (qexec v pp (nI 95)))) 526 [some (.inr (m + 1)), some (.inl (nI pp)), some (.inl (nI 95)), none, none] [] S (zrow mu (m + 1) v) 0 0 := by
  obtain ⟨⟨hN, k0, k1, -⟩, r0, -⟩ := id hS
  have hN0 : m < S.1 := by omega
  have hN1 : m + 1 < S.1 := by omega
  have hpp := (hV.2.1 i pp hi).2
  have hl4 := hV.1.2.2
  obtain ⟨x, y, dr, ss, sl, ns, s0, s1, s2, hP⟩ := hV.2.2.2.2.1 pp hpp
  obtain ⟨t0, t1, t2, hQ, -⟩ := hP.pop1
  refine zg_aload_n (i := 0) dX3_execute_526 rfl rfl ?_
  refine zg_iload_n (i := 1) dX3_execute_527 rfl rfl ?_
  refine zg_iconst (v := nI 2) dX3_execute_528 (by decide) ?_
  refine zg_aload_n (i := 0) dX3_execute_529 rfl rfl ?_
  refine zg_iload_n (i := 1) dX3_execute_530 rfl rfl ?_
  refine zg_callVi (cm_pop hS mu (by omega) hP) dX3_execute_531 cvX3_pop mlX3_87 rfl (by assumption) (by assumption) rfl (Nat.le_of_ble_eq_true rfl) ⟨by decide, by decide⟩ ⟨Nat.le_refl _, Nat.le_refl _⟩ (fun r mu2 h2 => ?_)
  obtain ⟨rfl, rfl⟩ := h2
  refine zg_if_ne (tgt := 541) dX3_execute_534 (by decide) (fun cz => ?_) (fun cz => ?_)
  · refine zg_iconst (v := nI 2) dX3_execute_541 (by decide) ?_
    refine zg_callVv (cm_put hS mu _ (p := pp) (w := 2) (by omega) _) dX3_execute_542 cvX3_put mlX3_80 rfl (by assumption) (by assumption) rfl (Nat.le_of_ble_eq_true rfl) ⟨by decide, by decide⟩ ⟨Nat.le_refl _, Nat.le_refl _⟩ (fun mu2 h2 => ?_)
    subst h2
    refine zg_goto (tgt := 694) dX3_execute_545 (by decide) ?_
    exact zg_vret dX3_execute_694 rfl ⟨rfl, rfl, by rw [qx_95, if_neg cz]⟩
  · refine zg_iconst (v := nI 0) dX3_execute_537 (by decide) ?_
    refine zg_goto (tgt := 542) dX3_execute_538 (by decide) ?_
    refine zg_callVv (cm_put hS mu _ (p := pp) (w := 2) (by omega) _) dX3_execute_542 cvX3_put mlX3_80 rfl (by assumption) (by assumption) rfl (Nat.le_of_ble_eq_true rfl) ⟨by decide, by decide⟩ ⟨Nat.le_refl _, Nat.le_refl _⟩ (fun mu2 h2 => ?_)
    subst h2
    refine zg_goto (tgt := 694) dX3_execute_545 (by decide) ?_
    exact zg_vret dX3_execute_694 rfl ⟨rfl, rfl, by rw [qx_95, if_pos cz]⟩
set_option maxRecDepth 20000 in
theorem lm_ex124 {S : zS} {m : Nat} (hS : MS S m) (mu : zU) {v : Nat → Int32} {ol : List Nat} {pp i : Nat} (hV : VI v ol) (hi : ol[i]? = some pp) : zG RX3 "execute" cX3_execute 5 none (zroom 4 0 0) 0 0 (zPv S (fun mu2 => mu2 = zrow mu (m + 1) (qexec v pp (nI 124)))) 548 [some (.inr (m + 1)), some (.inl (nI pp)), some (.inl (nI 124)), none, none] [] S (zrow mu (m + 1) v) 0 0 := by
  obtain ⟨⟨hN, k0, k1, -⟩, r0, -⟩ := id hS
  have hN0 : m < S.1 := by omega
  have hN1 : m + 1 < S.1 := by omega
  have hpp := (hV.2.1 i pp hi).2
  have hl4 := hV.1.2.2
  obtain ⟨x, y, dr, ss, sl, ns, s0, s1, s2, hP⟩ := hV.2.2.2.2.1 pp hpp
  obtain ⟨t0, t1, t2, hQ, -⟩ := hP.pop1
  refine zg_aload_n (i := 0) dX3_execute_548 rfl rfl ?_
  refine zg_iload_n (i := 1) dX3_execute_549 rfl rfl ?_
  refine zg_iconst (v := nI 2) dX3_execute_550 (by decide) ?_
  refine zg_aload_n (i := 0) dX3_execute_551 rfl rfl ?_
  refine zg_iload_n (i := 1) dX3_execute_552 rfl rfl ?_
  refine zg_callVi (cm_pop hS mu (by omega) hP) dX3_execute_553 cvX3_pop mlX3_87 rfl (by assumption) (by assumption) rfl (Nat.le_of_ble_eq_true rfl) ⟨by decide, by decide⟩ ⟨Nat.le_refl _, Nat.le_refl _⟩ (fun r mu2 h2 => ?_)
  obtain ⟨rfl, rfl⟩ := h2
  refine zg_if_ne (tgt := 563) dX3_execute_556 (by decide) (fun cz => ?_) (fun cz => ?_)
  · refine zg_iconst (v := nI 3) dX3_execute_563 (by decide) ?_
    refine zg_callVv (cm_put hS mu _ (p := pp) (w := 2) (by omega) _) dX3_execute_564 cvX3_put mlX3_80 rfl (by assumption) (by assumption) rfl (Nat.le_of_ble_eq_true rfl) ⟨by decide, by decide⟩ ⟨Nat.le_refl _, Nat.le_refl _⟩ (fun mu2 h2 => ?_)
    subst h2
    refine zg_goto (tgt := 694) dX3_execute_567 (by decide) ?_
    exact zg_vret dX3_execute_694 rfl ⟨rfl, rfl, by rw [qx_124, if_neg cz]⟩
  · refine zg_iconst (v := nI 1) dX3_execute_559 (by decide) ?_
    refine zg_goto (tgt := 564) dX3_execute_560 (by decide) ?_
    refine zg_callVv (cm_put hS mu _ (p := pp) (w := 2) (by omega) _) dX3_execute_564 cvX3_put mlX3_80 rfl (by assumption) (by assumption) rfl (Nat.le_of_ble_eq_true rfl) ⟨by decide, by decide⟩ ⟨Nat.le_refl _, Nat.le_refl _⟩ (fun mu2 h2 => ?_)
    subst h2
    refine zg_goto (tgt := 694) dX3_execute_567 (by decide) ?_
    exact zg_vret dX3_execute_694 rfl ⟨rfl, rfl, by rw [qx_124, if_pos cz]⟩
set_option maxRecDepth 20000 in
theorem lm_ex91 {S : zS} {m : Nat} (hS : MS S m) (mu : zU) {v : Nat → Int32} {ol : List Nat} {pp i : Nat} (hV : VI v ol) (hi : ol[i]? = some pp) : zG RX3 "execute" cX3_execute 5 none (zroom 4 0 0) 0 0 (zPv S (fun mu2 => mu2 = zrow mu (m + 1) (qexec v pp (nI 91)))) 570 [some (.inr (m + 1)), some (.inl (nI pp)), some (.inl (nI 91)), none, none] [] S (zrow mu (m + 1) v) 0 0 := by
  obtain ⟨⟨hN, k0, k1, -⟩, r0, -⟩ := id hS
  have hN0 : m < S.1 := by omega
  have hN1 : m + 1 < S.1 := by omega
  have hpp := (hV.2.1 i pp hi).2
  have hl4 := hV.1.2.2
  obtain ⟨x, y, dr, ss, sl, ns, s0, s1, s2, hP⟩ := hV.2.2.2.2.1 pp hpp
  obtain ⟨t0, t1, t2, hQ, -⟩ := hP.pop1
  refine zg_aload_n (i := 0) dX3_execute_570 rfl rfl ?_
  refine zg_iload_n (i := 1) dX3_execute_571 rfl rfl ?_
  refine zg_iconst (v := nI 3) dX3_execute_572 (by decide) ?_
  refine zg_callVv (cm_turn hS mu (by omega) hP (n := 3) (by omega)) dX3_execute_573 cvX3_turn mlX3_93 rfl (by assumption) (by assumption) rfl (Nat.le_of_ble_eq_true rfl) ⟨by decide, by decide⟩ ⟨Nat.le_refl _, Nat.le_refl _⟩ (fun mu2 h2 => ?_)
  subst h2
  refine zg_goto (tgt := 694) dX3_execute_576 (by decide) ?_
  exact zg_vret dX3_execute_694 rfl ⟨rfl, rfl, by rw [qx_91]⟩
set_option maxRecDepth 20000 in
theorem lm_ex93 {S : zS} {m : Nat} (hS : MS S m) (mu : zU) {v : Nat → Int32} {ol : List Nat} {pp i : Nat} (hV : VI v ol) (hi : ol[i]? = some pp) : zG RX3 "execute" cX3_execute 5 none (zroom 4 0 0) 0 0 (zPv S (fun mu2 => mu2 = zrow mu (m + 1) (qexec v pp (nI 93)))) 579 [some (.inr (m + 1)), some (.inl (nI pp)), some (.inl (nI 93)), none, none] [] S (zrow mu (m + 1) v) 0 0 := by
  obtain ⟨⟨hN, k0, k1, -⟩, r0, -⟩ := id hS
  have hN0 : m < S.1 := by omega
  have hN1 : m + 1 < S.1 := by omega
  have hpp := (hV.2.1 i pp hi).2
  have hl4 := hV.1.2.2
  obtain ⟨x, y, dr, ss, sl, ns, s0, s1, s2, hP⟩ := hV.2.2.2.2.1 pp hpp
  obtain ⟨t0, t1, t2, hQ, -⟩ := hP.pop1
  refine zg_aload_n (i := 0) dX3_execute_579 rfl rfl ?_
  refine zg_iload_n (i := 1) dX3_execute_580 rfl rfl ?_
  refine zg_iconst (v := nI 1) dX3_execute_581 (by decide) ?_
  refine zg_callVv (cm_turn hS mu (by omega) hP (n := 1) (by omega)) dX3_execute_582 cvX3_turn mlX3_93 rfl (by assumption) (by assumption) rfl (Nat.le_of_ble_eq_true rfl) ⟨by decide, by decide⟩ ⟨Nat.le_refl _, Nat.le_refl _⟩ (fun mu2 h2 => ?_)
  subst h2
  refine zg_goto (tgt := 694) dX3_execute_585 (by decide) ?_
  exact zg_vret dX3_execute_694 rfl ⟨rfl, rfl, by rw [qx_93]⟩
set_option maxRecDepth 20000 in
theorem lm_ex114 {S : zS} {m : Nat} (hS : MS S m) (mu : zU) {v : Nat → Int32} {ol : List Nat} {pp i : Nat} (hV : VI v ol) (hi : ol[i]? = some pp) : zG RX3 "execute" cX3_execute 5 none (zroom 4 0 0) 0 0 (zPv S (fun mu2 => mu2 = zrow mu (m + 1) (qexec v pp (nI 114)))) 588 [some (.inr (m + 1)), some (.inl (nI pp)), some (.inl (nI 114)), none, none] [] S (zrow mu (m + 1) v) 0 0 := by
  obtain ⟨⟨hN, k0, k1, -⟩, r0, -⟩ := id hS
  have hN0 : m < S.1 := by omega
  have hN1 : m + 1 < S.1 := by omega
  have hpp := (hV.2.1 i pp hi).2
  have hl4 := hV.1.2.2
  obtain ⟨x, y, dr, ss, sl, ns, s0, s1, s2, hP⟩ := hV.2.2.2.2.1 pp hpp
  obtain ⟨t0, t1, t2, hQ, -⟩ := hP.pop1
  refine zg_aload_n (i := 0) dX3_execute_588 rfl rfl ?_
  refine zg_iload_n (i := 1) dX3_execute_589 rfl rfl ?_
  refine zg_iconst (v := nI 2) dX3_execute_590 (by decide) ?_
  refine zg_callVv (cm_turn hS mu (by omega) hP (n := 2) (by omega)) dX3_execute_591 cvX3_turn mlX3_93 rfl (by assumption) (by assumption) rfl (Nat.le_of_ble_eq_true rfl) ⟨by decide, by decide⟩ ⟨Nat.le_refl _, Nat.le_refl _⟩ (fun mu2 h2 => ?_)
  subst h2
  refine zg_goto (tgt := 694) dX3_execute_594 (by decide) ?_
  exact zg_vret dX3_execute_694 rfl ⟨rfl, rfl, by rw [qx_114]⟩
set_option maxRecDepth 20000 in
theorem lm_ex35 {S : zS} {m : Nat} (hS : MS S m) (mu : zU) {v : Nat → Int32} {ol : List Nat} {pp i : Nat} (hV : VI v ol) (hi : ol[i]? = some pp) : zG RX3 "execute" cX3_execute 5 none (zroom 4 0 0) 0 0 (zPv S (fun mu2 => mu2 = zrow mu (m + 1) (qexec v pp (nI 35)))) 597 [some (.inr (m + 1)), some (.inl (nI pp)), some (.inl (nI 35)), none, none] [] S (zrow mu (m + 1) v) 0 0 := by
  obtain ⟨⟨hN, k0, k1, -⟩, r0, -⟩ := id hS
  have hN0 : m < S.1 := by omega
  have hN1 : m + 1 < S.1 := by omega
  have hpp := (hV.2.1 i pp hi).2
  have hl4 := hV.1.2.2
  obtain ⟨x, y, dr, ss, sl, ns, s0, s1, s2, hP⟩ := hV.2.2.2.2.1 pp hpp
  obtain ⟨t0, t1, t2, hQ, -⟩ := hP.pop1
  refine zg_aload_n (i := 0) dX3_execute_597 rfl rfl ?_
  refine zg_iload_n (i := 1) dX3_execute_598 rfl rfl ?_
  refine zg_callVv (cm_move hS mu (by omega) hP) dX3_execute_599 cvX3_move mlX3_100 rfl (by assumption) (by assumption) rfl (Nat.le_of_ble_eq_true rfl) ⟨by decide, by decide⟩ ⟨Nat.le_refl _, Nat.le_refl _⟩ (fun mu2 h2 => ?_)
  subst h2
  refine zg_goto (tgt := 694) dX3_execute_602 (by decide) ?_
  exact zg_vret dX3_execute_694 rfl ⟨rfl, rfl, by rw [qx_35]⟩
set_option maxRecDepth 20000 in
theorem lm_ex103 {S : zS} {m : Nat} (hS : MS S m) (mu : zU) {v : Nat → Int32} {ol : List Nat} {pp i : Nat} (hV : VI v ol) (hi : ol[i]? = some pp) : zG RX3 "execute" cX3_execute 5 none (zroom 4 0 0) 0 0 (zPv S (fun mu2 => mu2 = zrow mu (m + 1) (qexec v pp (nI 103)))) 605 [some (.inr (m + 1)), some (.inl (nI pp)), some (.inl (nI 103)), none, none] [] S (zrow mu (m + 1) v) 0 0 := by
  obtain ⟨⟨hN, k0, k1, -⟩, r0, -⟩ := id hS
  have hN0 : m < S.1 := by omega
  have hN1 : m + 1 < S.1 := by omega
  have hpp := (hV.2.1 i pp hi).2
  have hl4 := hV.1.2.2
  obtain ⟨x, y, dr, ss, sl, ns, s0, s1, s2, hP⟩ := hV.2.2.2.2.1 pp hpp
  obtain ⟨t0, t1, t2, hQ, -⟩ := hP.pop1
  refine zg_aload_n (i := 0) dX3_execute_605 rfl rfl ?_
  refine zg_iload_n (i := 1) dX3_execute_606 rfl rfl ?_
  refine zg_callVv (cm_fetch hS mu (by omega) hP) dX3_execute_607 cvX3_fetch mlX3_117 rfl (by assumption) (by assumption) rfl (Nat.le_of_ble_eq_true rfl) ⟨by decide, by decide⟩ ⟨Nat.le_refl _, Nat.le_refl _⟩ (fun mu2 h2 => ?_)
  subst h2
  refine zg_goto (tgt := 694) dX3_execute_610 (by decide) ?_
  exact zg_vret dX3_execute_694 rfl ⟨rfl, rfl, by rw [qx_103]⟩
set_option maxRecDepth 20000 in
theorem lm_ex112 {S : zS} {m : Nat} (hS : MS S m) (mu : zU) {v : Nat → Int32} {ol : List Nat} {pp i : Nat} (hV : VI v ol) (hi : ol[i]? = some pp) : zG RX3 "execute" cX3_execute 5 none (zroom 4 0 0) 0 0 (zPv S (fun mu2 => mu2 = zrow mu (m + 1) (qexec v pp (nI 112)))) 613 [some (.inr (m + 1)), some (.inl (nI pp)), some (.inl (nI 112)), none, none] [] S (zrow mu (m + 1) v) 0 0 := by
  obtain ⟨⟨hN, k0, k1, -⟩, r0, -⟩ := id hS
  have hN0 : m < S.1 := by omega
  have hN1 : m + 1 < S.1 := by omega
  have hpp := (hV.2.1 i pp hi).2
  have hl4 := hV.1.2.2
  obtain ⟨x, y, dr, ss, sl, ns, s0, s1, s2, hP⟩ := hV.2.2.2.2.1 pp hpp
  obtain ⟨t0, t1, t2, hQ, -⟩ := hP.pop1
  refine zg_aload_n (i := 0) dX3_execute_613 rfl rfl ?_
  refine zg_iload_n (i := 1) dX3_execute_614 rfl rfl ?_
  refine zg_callVv (cm_store hS mu (by omega) hP) dX3_execute_615 cvX3_store mlX3_120 rfl (by assumption) (by assumption) rfl (Nat.le_of_ble_eq_true rfl) ⟨by decide, by decide⟩ ⟨Nat.le_refl _, Nat.le_refl _⟩ (fun mu2 h2 => ?_)
  subst h2
  refine zg_goto (tgt := 694) dX3_execute_618 (by decide) ?_
  exact zg_vret dX3_execute_694 rfl ⟨rfl, rfl, by rw [qx_112]⟩
set_option maxRecDepth 20000 in
theorem lm_ex46 {S : zS} {m : Nat} (hS : MS S m) (mu : zU) {v : Nat → Int32} {ol : List Nat} {pp i : Nat} (hV : VI v ol) (hi : ol[i]? = some pp) : zG RX3 "execute" cX3_execute 5 none (zroom 4 0 0) 0 0 (zPv S (fun mu2 => mu2 = zrow mu (m + 1) (qexec v pp (nI 46)))) 621 [some (.inr (m + 1)), some (.inl (nI pp)), some (.inl (nI 46)), none, none] [] S (zrow mu (m + 1) v) 0 0 := by
  obtain ⟨⟨hN, k0, k1, -⟩, r0, -⟩ := id hS
  have hN0 : m < S.1 := by omega
  have hN1 : m + 1 < S.1 := by omega
  have hpp := (hV.2.1 i pp hi).2
  have hl4 := hV.1.2.2
  obtain ⟨x, y, dr, ss, sl, ns, s0, s1, s2, hP⟩ := hV.2.2.2.2.1 pp hpp
  obtain ⟨t0, t1, t2, hQ, -⟩ := hP.pop1
  obtain ⟨k, kk1, kk2, -⟩ := (VI_ptr hV hpp (PO_pop ⟨_, _, _, _, _, _, _, _, _, hP⟩)).2.2.2.2.2.2.2
  refine zg_aload_n (i := 0) dX3_execute_621 rfl rfl ?_
  refine zg_aload_n (i := 0) dX3_execute_622 rfl rfl ?_
  refine zg_iload_n (i := 1) dX3_execute_623 rfl rfl ?_
  refine zg_callVi (cm_pop hS mu (by omega) hP) dX3_execute_624 cvX3_pop mlX3_87 rfl (by assumption) (by assumption) rfl (Nat.le_of_ble_eq_true rfl) ⟨by decide, by decide⟩ ⟨Nat.le_refl _, Nat.le_refl _⟩ (fun r mu2 h2 => ?_)
  obtain ⟨rfl, rfl⟩ := h2
  refine zg_callVv (cm_output hS mu kk1 kk2 _) dX3_execute_627 cvX3_output mlX3_123 rfl (by assumption) (by assumption) rfl (Nat.le_of_ble_eq_true rfl) ⟨by decide, by decide⟩ ⟨Nat.le_refl _, Nat.le_refl _⟩ (fun mu2 h2 => ?_)
  subst h2
  refine zg_goto (tgt := 694) dX3_execute_630 (by decide) ?_
  exact zg_vret dX3_execute_694 rfl ⟨rfl, rfl, by rw [qx_46]⟩
set_option maxRecDepth 20000 in
theorem lm_ex126 {S : zS} {m : Nat} (hS : MS S m) (mu : zU) {v : Nat → Int32} {ol : List Nat} {pp i : Nat} (hV : VI v ol) (hi : ol[i]? = some pp) : zG RX3 "execute" cX3_execute 5 none (zroom 4 0 0) 0 0 (zPv S (fun mu2 => mu2 = zrow mu (m + 1) (qexec v pp (nI 126)))) 633 [some (.inr (m + 1)), some (.inl (nI pp)), some (.inl (nI 126)), none, none] [] S (zrow mu (m + 1) v) 0 0 := by
  obtain ⟨⟨hN, k0, k1, -⟩, r0, -⟩ := id hS
  have hN0 : m < S.1 := by omega
  have hN1 : m + 1 < S.1 := by omega
  have hpp := (hV.2.1 i pp hi).2
  have hl4 := hV.1.2.2
  obtain ⟨x, y, dr, ss, sl, ns, s0, s1, s2, hP⟩ := hV.2.2.2.2.1 pp hpp
  obtain ⟨t0, t1, t2, hQ, -⟩ := hP.pop1
  obtain ⟨n, kk1, kk2, -⟩ := hV.2.2.2.2.2.2.1
  refine zg_aload_n (i := 0) dX3_execute_633 rfl rfl ?_
  refine zg_iload_n (i := 1) dX3_execute_634 rfl rfl ?_
  refine zg_callVv (cm_input hS mu (by omega) hP kk1 kk2) dX3_execute_635 cvX3_input mlX3_126 rfl (by assumption) (by assumption) rfl (Nat.le_of_ble_eq_true rfl) ⟨by decide, by decide⟩ ⟨Nat.le_refl _, Nat.le_refl _⟩ (fun mu2 h2 => ?_)
  subst h2
  refine zg_goto (tgt := 694) dX3_execute_638 (by decide) ?_
  exact zg_vret dX3_execute_694 rfl ⟨rfl, rfl, by rw [qx_126]⟩
set_option maxRecDepth 20000 in
theorem lm_ex119 {S : zS} {m : Nat} (hS : MS S m) (mu : zU) {v : Nat → Int32} {ol : List Nat} {pp i : Nat} (hV : VI v ol) (hi : ol[i]? = some pp) : zG RX3 "execute" cX3_execute 5 none (zroom 4 0 0) 0 0 (zPv S (fun mu2 => mu2 = zrow mu (m + 1) (qexec v pp (nI 119)))) 641 [some (.inr (m + 1)), some (.inl (nI pp)), some (.inl (nI 119)), none, none] [] S (zrow mu (m + 1) v) 0 0 := by
  obtain ⟨⟨hN, k0, k1, -⟩, r0, -⟩ := id hS
  have hN0 : m < S.1 := by omega
  have hN1 : m + 1 < S.1 := by omega
  have hpp := (hV.2.1 i pp hi).2
  have hl4 := hV.1.2.2
  obtain ⟨x, y, dr, ss, sl, ns, s0, s1, s2, hP⟩ := hV.2.2.2.2.1 pp hpp
  obtain ⟨t0, t1, t2, hQ, -⟩ := hP.pop1
  refine zg_aload_n (i := 0) dX3_execute_641 rfl rfl ?_
  refine zg_iload_n (i := 1) dX3_execute_642 rfl rfl ?_
  refine zg_iconst (v := nI 4) dX3_execute_643 (by decide) ?_
  refine zg_aload_n (i := 0) dX3_execute_644 rfl rfl ?_
  refine zg_iload_n (i := 1) dX3_execute_645 rfl rfl ?_
  refine zg_callVi (cm_pop hS mu (by omega) hP) dX3_execute_646 cvX3_pop mlX3_87 rfl (by assumption) (by assumption) rfl (Nat.le_of_ble_eq_true rfl) ⟨by decide, by decide⟩ ⟨Nat.le_refl _, Nat.le_refl _⟩ (fun r mu2 h2 => ?_)
  obtain ⟨rfl, rfl⟩ := h2
  refine zg_bipush (v := nI 9) dX3_execute_649 (by decide) ?_
  refine zg_callSi (cm_clamp S _ _ (n := 9) (by omega)) dX3_execute_651 ctX3_clamp mlX3_90 rfl rfl (Nat.le_of_ble_eq_true rfl) ⟨by decide, by decide⟩ ⟨Nat.le_refl _, Nat.le_refl _⟩ (fun r mu2 h2 => ?_)
  obtain ⟨rfl, rfl⟩ := h2
  refine zg_callVv (cm_put hS mu _ (p := pp) (w := 4) (by omega) _) dX3_execute_654 cvX3_put mlX3_80 rfl (by assumption) (by assumption) rfl (Nat.le_of_ble_eq_true rfl) ⟨by decide, by decide⟩ ⟨Nat.le_refl _, Nat.le_refl _⟩ (fun mu2 h2 => ?_)
  subst h2
  refine zg_goto (tgt := 694) dX3_execute_657 (by decide) ?_
  exact zg_vret dX3_execute_694 rfl ⟨rfl, rfl, by rw [qx_119]⟩
set_option maxRecDepth 20000 in
theorem lm_ex116 {S : zS} {m : Nat} (hS : MS S m) (mu : zU) {v : Nat → Int32} {ol : List Nat} {pp i : Nat} (hV : VI v ol) (hi : ol[i]? = some pp) : zG RX3 "execute" cX3_execute 5 none (zroom 4 0 0) 0 0 (zPv S (fun mu2 => mu2 = zrow mu (m + 1) (qexec v pp (nI 116)))) 660 [some (.inr (m + 1)), some (.inl (nI pp)), some (.inl (nI 116)), none, none] [] S (zrow mu (m + 1) v) 0 0 := by
  obtain ⟨⟨hN, k0, k1, -⟩, r0, -⟩ := id hS
  have hN0 : m < S.1 := by omega
  have hN1 : m + 1 < S.1 := by omega
  have hpp := (hV.2.1 i pp hi).2
  have hl4 := hV.1.2.2
  obtain ⟨x, y, dr, ss, sl, ns, s0, s1, s2, hP⟩ := hV.2.2.2.2.1 pp hpp
  obtain ⟨t0, t1, t2, hQ, -⟩ := hP.pop1
  refine zg_aload_n (i := 0) dX3_execute_660 rfl rfl ?_
  refine zg_iload_n (i := 1) dX3_execute_661 rfl rfl ?_
  refine zg_callVv (cm_split hS mu hV hi) dX3_execute_662 cvX3_split mlX3_129 rfl (by assumption) (by assumption) rfl (Nat.le_of_ble_eq_true rfl) ⟨by decide, by decide⟩ ⟨Nat.le_refl _, Nat.le_refl _⟩ (fun mu2 h2 => ?_)
  subst h2
  refine zg_goto (tgt := 694) dX3_execute_665 (by decide) ?_
  exact zg_vret dX3_execute_694 rfl ⟨rfl, rfl, by rw [qx_116]⟩
set_option maxRecDepth 20000 in
theorem lm_ex123 {S : zS} {m : Nat} (hS : MS S m) (mu : zU) {v : Nat → Int32} {ol : List Nat} {pp i : Nat} (hV : VI v ol) (hi : ol[i]? = some pp) : zG RX3 "execute" cX3_execute 5 none (zroom 4 0 0) 0 0 (zPv S (fun mu2 => mu2 = zrow mu (m + 1) (qexec v pp (nI 123)))) 668 [some (.inr (m + 1)), some (.inl (nI pp)), some (.inl (nI 123)), none, none] [] S (zrow mu (m + 1) v) 0 0 := by
  obtain ⟨⟨hN, k0, k1, -⟩, r0, -⟩ := id hS
  have hN0 : m < S.1 := by omega
  have hN1 : m + 1 < S.1 := by omega
  have hpp := (hV.2.1 i pp hi).2
  have hl4 := hV.1.2.2
  obtain ⟨x, y, dr, ss, sl, ns, s0, s1, s2, hP⟩ := hV.2.2.2.2.1 pp hpp
  obtain ⟨t0, t1, t2, hQ, -⟩ := hP.pop1
  refine zg_aload_n (i := 0) dX3_execute_668 rfl rfl ?_
  refine zg_iload_n (i := 1) dX3_execute_669 rfl rfl ?_
  refine zg_callVv (cm_openStack hS mu (by omega) hP) dX3_execute_670 cvX3_openStack mlX3_132 rfl (by assumption) (by assumption) rfl (Nat.le_of_ble_eq_true rfl) ⟨by decide, by decide⟩ ⟨Nat.le_refl _, Nat.le_refl _⟩ (fun mu2 h2 => ?_)
  subst h2
  refine zg_goto (tgt := 694) dX3_execute_673 (by decide) ?_
  exact zg_vret dX3_execute_694 rfl ⟨rfl, rfl, by rw [qx_123]⟩
set_option maxRecDepth 20000 in
theorem lm_ex125 {S : zS} {m : Nat} (hS : MS S m) (mu : zU) {v : Nat → Int32} {ol : List Nat} {pp i : Nat} (hV : VI v ol) (hi : ol[i]? = some pp) : zG RX3 "execute" cX3_execute 5 none (zroom 4 0 0) 0 0 (zPv S (fun mu2 => mu2 = zrow mu (m + 1) (qexec v pp (nI 125)))) 676 [some (.inr (m + 1)), some (.inl (nI pp)), some (.inl (nI 125)), none, none] [] S (zrow mu (m + 1) v) 0 0 := by
  obtain ⟨⟨hN, k0, k1, -⟩, r0, -⟩ := id hS
  have hN0 : m < S.1 := by omega
  have hN1 : m + 1 < S.1 := by omega
  have hpp := (hV.2.1 i pp hi).2
  have hl4 := hV.1.2.2
  obtain ⟨x, y, dr, ss, sl, ns, s0, s1, s2, hP⟩ := hV.2.2.2.2.1 pp hpp
  obtain ⟨t0, t1, t2, hQ, -⟩ := hP.pop1
  refine zg_aload_n (i := 0) dX3_execute_676 rfl rfl ?_
  refine zg_iload_n (i := 1) dX3_execute_677 rfl rfl ?_
  refine zg_callVv (cm_closeStack hS mu (by omega) hP) dX3_execute_678 cvX3_closeStack mlX3_135 rfl (by assumption) (by assumption) rfl (Nat.le_of_ble_eq_true rfl) ⟨by decide, by decide⟩ ⟨Nat.le_refl _, Nat.le_refl _⟩ (fun mu2 h2 => ?_)
  subst h2
  refine zg_goto (tgt := 694) dX3_execute_681 (by decide) ?_
  exact zg_vret dX3_execute_694 rfl ⟨rfl, rfl, by rw [qx_125]⟩
set_option maxRecDepth 20000 in
theorem lm_ex64 {S : zS} {m : Nat} (hS : MS S m) (mu : zU) {v : Nat → Int32} {ol : List Nat} {pp i : Nat} (hV : VI v ol) (hi : ol[i]? = some pp) : zG RX3 "execute" cX3_execute 5 none (zroom 4 0 0) 0 0 (zPv S (fun mu2 => mu2 = zrow mu (m + 1) (qexec v pp (nI 64)))) 684 [some (.inr (m + 1)), some (.inl (nI pp)), some (.inl (nI 64)), none, none] [] S (zrow mu (m + 1) v) 0 0 := by
  obtain ⟨⟨hN, k0, k1, -⟩, r0, -⟩ := id hS
  have hN0 : m < S.1 := by omega
  have hN1 : m + 1 < S.1 := by omega
  have hpp := (hV.2.1 i pp hi).2
  have hl4 := hV.1.2.2
  obtain ⟨x, y, dr, ss, sl, ns, s0, s1, s2, hP⟩ := hV.2.2.2.2.1 pp hpp
  obtain ⟨t0, t1, t2, hQ, -⟩ := hP.pop1
  refine zg_aload_n (i := 0) dX3_execute_684 rfl rfl ?_
  refine zg_iload_n (i := 1) dX3_execute_685 rfl rfl ?_
  refine zg_iconst (v := nI 3) dX3_execute_686 (by decide) ?_
  refine zg_iconst (v := nI 1) dX3_execute_687 (by decide) ?_
  refine zg_callVv (cm_put hS mu v (p := pp) (w := 3) (by omega) _) dX3_execute_688 cvX3_put mlX3_80 rfl (by assumption) (by assumption) rfl (Nat.le_of_ble_eq_true rfl) ⟨by decide, by decide⟩ ⟨Nat.le_refl _, Nat.le_refl _⟩ (fun mu2 h2 => ?_)
  subst h2
  refine zg_goto (tgt := 694) dX3_execute_691 (by decide) ?_
  exact zg_vret dX3_execute_694 rfl ⟨rfl, rfl, by rw [qx_64]⟩
set_option maxRecDepth 20000 in
theorem cm_execute {S : zS} {m : Nat} (hS : MS S m) (mu : zU) {v : Nat → Int32} {ol : List Nat} {pp i : Nat} (hV : VI v ol) (hi : ol[i]? = some pp) (c : Int32) : zM yX3_execute cX3_execute 5 none 4 0 0 [.inr (m + 1), .inl (nI pp), .inl c] S (zrow mu (m + 1) v) (zPv S (fun mu2 => mu2 = zrow mu (m + 1) (qexec v pp c))) := by
  obtain ⟨⟨hN, k0, k1, -⟩, r0, -⟩ := id hS
  have hN0 : m < S.1 := by omega
  have hN1 : m + 1 < S.1 := by omega
  have hpp := (hV.2.1 i pp hi).2
  have hl4 := hV.1.2.2
  obtain ⟨x, y, dr, ss, sl, ns, s0, s1, s2, hP⟩ := hV.2.2.2.2.1 pp hpp
  obtain ⟨t0, t1, t2, hQ, -⟩ := hP.pop1
  refine zM.ofG (by decide +kernel) (Nat.le_of_ble_eq_true rfl) ?_
  refine zg_iload_n (i := 2) dX3_execute_0 rfl rfl ?_
  refine zg_bipush (v := nI 48) dX3_execute_1 (by decide) ?_
  refine zg_bipush (v := nI 57) dX3_execute_3 (by decide) ?_
  refine zg_callSi (cm_in S _ c (nI 48) (nI 57)) dX3_execute_5 ctX3_in mlX3_44 rfl rfl (Nat.le_of_ble_eq_true rfl) ⟨by decide, by decide⟩ ⟨Nat.le_refl _, Nat.le_refl _⟩ (fun r mu2 h2 => ?_)
  obtain ⟨rfl, rfl⟩ := h2
  by_cases hd : nI 48 ≤ c ∧ c ≤ nI 57
  · rw [if_pos hd]
    first | with_reducible refine zg_ifN_eq (tgt := 21) dX3_execute_8 (by decide) (by omega) (fun cz => ?_) (fun cz => ?_) | refine zg_if_eq (tgt := 21) dX3_execute_8 (by decide) (fun cz => ?_) (fun cz => ?_)
    · exact absurd cz (by decide)
    · refine zg_aload_n (i := 0) dX3_execute_11 rfl rfl ?_
      refine zg_iload_n (i := 1) dX3_execute_12 rfl rfl ?_
      refine zg_iload_n (i := 2) dX3_execute_13 rfl rfl ?_
      refine zg_bipush (v := nI 48) dX3_execute_14 (by decide) ?_
      first | with_reducible refine zg_isubN dX3_execute_16 (by omega) ?_ | refine zg_isub dX3_execute_16 ?_
      refine zg_callVv (cm_push hS mu (by omega) hP _) dX3_execute_17 cvX3_push mlX3_97 rfl (by assumption) (by assumption) rfl (Nat.le_of_ble_eq_true rfl) ⟨by decide, by decide⟩ ⟨Nat.le_refl _, Nat.le_refl _⟩ (fun mu2 h2 => ?_)
      subst h2
      refine zg_vret dX3_execute_20 rfl ⟨rfl, rfl, ?_⟩
      show zrow _ _ _ = zrow _ _ _
      rw [qx_perf v pp ⟨fun e => absurd (e ▸ hd) (by decide), fun e => absurd (e ▸ hd) (by decide), fun e => absurd (e ▸ hd) (by decide), fun e => absurd (e ▸ hd) (by decide), fun e => absurd (e ▸ hd) (by decide)⟩, qp_dig v _ hd]
  rw [if_neg hd]
  first | with_reducible refine zg_ifN_eq (tgt := 21) dX3_execute_8 (by decide) (by omega) (fun cz => ?_) (fun cz => ?_) | refine zg_if_eq (tgt := 21) dX3_execute_8 (by decide) (fun cz => ?_) (fun cz => ?_)
  · refine zg_iload_n (i := 2) dX3_execute_21 rfl rfl ?_
    by_cases c103 : c = nI 103
    · subst c103
      exact zg_tableIn (off := 583) (tgt := 605) dX3_execute_22 (by decide) (by decide) rfl (by decide) (lm_ex103 hS mu hV hi)
    by_cases c112 : c = nI 112
    · subst c112
      exact zg_tableIn (off := 591) (tgt := 613) dX3_execute_22 (by decide) (by decide) rfl (by decide) (lm_ex112 hS mu hV hi)
    by_cases c46 : c = nI 46
    · subst c46
      exact zg_tableIn (off := 599) (tgt := 621) dX3_execute_22 (by decide) (by decide) rfl (by decide) (lm_ex46 hS mu hV hi)
    by_cases c126 : c = nI 126
    · subst c126
      exact zg_tableIn (off := 611) (tgt := 633) dX3_execute_22 (by decide) (by decide) rfl (by decide) (lm_ex126 hS mu hV hi)
    by_cases c116 : c = nI 116
    · subst c116
      exact zg_tableIn (off := 638) (tgt := 660) dX3_execute_22 (by decide) (by decide) rfl (by decide) (lm_ex116 hS mu hV hi)
    by_cases c43 : c = nI 43
    · subst c43
      exact zg_tableIn (off := 390) (tgt := 412) dX3_execute_22 (by decide) (by decide) rfl (by decide) (lm_ex43 hS mu hV hi)
    by_cases c45 : c = nI 45
    · subst c45
      exact zg_tableIn (off := 390) (tgt := 412) dX3_execute_22 (by decide) (by decide) rfl (by decide) (lm_ex45 hS mu hV hi)
    by_cases c42 : c = nI 42
    · subst c42
      exact zg_tableIn (off := 390) (tgt := 412) dX3_execute_22 (by decide) (by decide) rfl (by decide) (lm_ex42 hS mu hV hi)
    by_cases c47 : c = nI 47
    · subst c47
      exact zg_tableIn (off := 390) (tgt := 412) dX3_execute_22 (by decide) (by decide) rfl (by decide) (lm_ex47 hS mu hV hi)
    by_cases c37 : c = nI 37
    · subst c37
      exact zg_tableIn (off := 390) (tgt := 412) dX3_execute_22 (by decide) (by decide) rfl (by decide) (lm_ex37 hS mu hV hi)
    by_cases c96 : c = nI 96
    · subst c96
      exact zg_tableIn (off := 390) (tgt := 412) dX3_execute_22 (by decide) (by decide) rfl (by decide) (lm_ex96 hS mu hV hi)
    by_cases c33 : c = nI 33
    · subst c33
      exact zg_tableIn (off := 418) (tgt := 440) dX3_execute_22 (by decide) (by decide) rfl (by decide) (lm_ex33 hS mu hV hi)
    by_cases c58 : c = nI 58
    · subst c58
      exact zg_tableIn (off := 439) (tgt := 461) dX3_execute_22 (by decide) (by decide) rfl (by decide) (lm_ex58 hS mu hV hi)
    by_cases c92 : c = nI 92
    · subst c92
      exact zg_tableIn (off := 447) (tgt := 469) dX3_execute_22 (by decide) (by decide) rfl (by decide) (lm_ex92 hS mu hV hi)
    by_cases c36 : c = nI 36
    · subst c36
      exact zg_tableIn (off := 455) (tgt := 477) dX3_execute_22 (by decide) (by decide) rfl (by decide) (lm_ex36 hS mu hV hi)
    by_cases c123 : c = nI 123
    · subst c123
      exact zg_tableIn (off := 646) (tgt := 668) dX3_execute_22 (by decide) (by decide) rfl (by decide) (lm_ex123 hS mu hV hi)
    by_cases c125 : c = nI 125
    · subst c125
      exact zg_tableIn (off := 654) (tgt := 676) dX3_execute_22 (by decide) (by decide) rfl (by decide) (lm_ex125 hS mu hV hi)
    by_cases c119 : c = nI 119
    · subst c119
      exact zg_tableIn (off := 619) (tgt := 641) dX3_execute_22 (by decide) (by decide) rfl (by decide) (lm_ex119 hS mu hV hi)
    by_cases c64 : c = nI 64
    · subst c64
      exact zg_tableIn (off := 662) (tgt := 684) dX3_execute_22 (by decide) (by decide) rfl (by decide) (lm_ex64 hS mu hV hi)
    by_cases c62 : c = nI 62
    · subst c62
      exact zg_tableIn (off := 464) (tgt := 486) dX3_execute_22 (by decide) (by decide) rfl (by decide) (lm_ex62 hS mu hV hi)
    by_cases c118 : c = nI 118
    · subst c118
      exact zg_tableIn (off := 474) (tgt := 496) dX3_execute_22 (by decide) (by decide) rfl (by decide) (lm_ex118 hS mu hV hi)
    by_cases c60 : c = nI 60
    · subst c60
      exact zg_tableIn (off := 484) (tgt := 506) dX3_execute_22 (by decide) (by decide) rfl (by decide) (lm_ex60 hS mu hV hi)
    by_cases c94 : c = nI 94
    · subst c94
      exact zg_tableIn (off := 494) (tgt := 516) dX3_execute_22 (by decide) (by decide) rfl (by decide) (lm_ex94 hS mu hV hi)
    by_cases c95 : c = nI 95
    · subst c95
      exact zg_tableIn (off := 504) (tgt := 526) dX3_execute_22 (by decide) (by decide) rfl (by decide) (lm_ex95 hS mu hV hi)
    by_cases c124 : c = nI 124
    · subst c124
      exact zg_tableIn (off := 526) (tgt := 548) dX3_execute_22 (by decide) (by decide) rfl (by decide) (lm_ex124 hS mu hV hi)
    by_cases c91 : c = nI 91
    · subst c91
      exact zg_tableIn (off := 548) (tgt := 570) dX3_execute_22 (by decide) (by decide) rfl (by decide) (lm_ex91 hS mu hV hi)
    by_cases c93 : c = nI 93
    · subst c93
      exact zg_tableIn (off := 557) (tgt := 579) dX3_execute_22 (by decide) (by decide) rfl (by decide) (lm_ex93 hS mu hV hi)
    by_cases c114 : c = nI 114
    · subst c114
      exact zg_tableIn (off := 566) (tgt := 588) dX3_execute_22 (by decide) (by decide) rfl (by decide) (lm_ex114 hS mu hV hi)
    by_cases c35 : c = nI 35
    · subst c35
      exact zg_tableIn (off := 575) (tgt := 597) dX3_execute_22 (by decide) (by decide) rfl (by decide) (lm_ex35 hS mu hV hi)
    have hq : qexec v pp c = v := by rw [qx_perf v pp ⟨c103, c112, c46, c126, c116⟩, qp_steer v _ hd (by rintro (h1 | h1 | h1 | h1 | h1 | h1) <;> contradiction) ⟨c33, c58, c92, c36, c123, c125, c119, c64⟩, qs_none v _ ⟨c62, c118, c60, c94, c95, c124, c91, c93, c114, c35⟩]
    have hend : zG RX3 "execute" cX3_execute 5 none (zroom 4 0 0) 0 0 (zPv S (fun mu2 => mu2 = zrow mu (m + 1) (qexec v pp c))) 694 [some (.inr (m + 1)), some (.inl (nI pp)), some (.inl c), none, none] [] S (zrow mu (m + 1) v) 0 0 := zg_vret dX3_execute_694 rfl ⟨rfl, rfl, by rw [hq]⟩
    by_cases hr : c.toInt < 33 ∨ 126 < c.toInt
    · exact zg_tableOut (tgt := 694) dX3_execute_22 hr (by decide) hend
    · obtain ⟨j, hj31, hj⟩ := nI_of (x := c) (fun hz => by
        have := Int32.lt_iff_toInt_lt.mp hz
        have e0 : (0 : Int32).toInt = 0 := rfl
        omega)
      have hjI : c.toInt = j := by rw [hj]; exact nI_toInt hj31
      refine zg_tableIn (off := 672) (tgt := 694) dX3_execute_22 (by omega) (by omega) ?_ (by decide) hend
      rw [hjI, show ((j : Int) - 33).toNat = j - 33 by omega]
      refine tb_exec (j - 33) (by omega) (fun hm => ?_)
      simp only [List.mem_cons, List.not_mem_nil, or_false] at hm
      rcases hm with hm | hm | hm | hm | hm | hm | hm | hm | hm | hm | hm | hm | hm | hm | hm | hm | hm | hm | hm | hm | hm | hm | hm | hm | hm | hm | hm | hm | hm
      · exact c33 (by rw [hj, show j = 33 by omega])
      · exact c35 (by rw [hj, show j = 35 by omega])
      · exact c36 (by rw [hj, show j = 36 by omega])
      · exact c37 (by rw [hj, show j = 37 by omega])
      · exact c42 (by rw [hj, show j = 42 by omega])
      · exact c43 (by rw [hj, show j = 43 by omega])
      · exact c45 (by rw [hj, show j = 45 by omega])
      · exact c46 (by rw [hj, show j = 46 by omega])
      · exact c47 (by rw [hj, show j = 47 by omega])
      · exact c58 (by rw [hj, show j = 58 by omega])
      · exact c60 (by rw [hj, show j = 60 by omega])
      · exact c62 (by rw [hj, show j = 62 by omega])
      · exact c64 (by rw [hj, show j = 64 by omega])
      · exact c91 (by rw [hj, show j = 91 by omega])
      · exact c92 (by rw [hj, show j = 92 by omega])
      · exact c93 (by rw [hj, show j = 93 by omega])
      · exact c94 (by rw [hj, show j = 94 by omega])
      · exact c95 (by rw [hj, show j = 95 by omega])
      · exact c96 (by rw [hj, show j = 96 by omega])
      · exact c103 (by rw [hj, show j = 103 by omega])
      · exact c112 (by rw [hj, show j = 112 by omega])
      · exact c114 (by rw [hj, show j = 114 by omega])
      · exact c116 (by rw [hj, show j = 116 by omega])
      · exact c118 (by rw [hj, show j = 118 by omega])
      · exact c119 (by rw [hj, show j = 119 by omega])
      · exact c123 (by rw [hj, show j = 123 by omega])
      · exact c124 (by rw [hj, show j = 124 by omega])
      · exact c125 (by rw [hj, show j = 125 by omega])
      · exact c126 (by rw [hj, show j = 126 by omega])
  · exact absurd rfl cz
end
