section ZN
variable {own nm : String} {cc : ByteArray} {nL : Nat} {ret : Option FieldType} {R : Room} {mc ms : Nat} {Ph : Option zV → zS → zU → Prop} {pc : Nat} {L : List (Option zV)} {st : List zV} {S : zS} {mu : zU} {cells slots : Nat}
theorem zg_iaddN {a b : Nat} (hd : decode cc pc = .ok (.iadd, 1)) (k : zG own nm cc nL ret R mc ms Ph (pc + 1) L (.inl (nI (a + b)) :: st) S mu cells slots) : zG own nm cc nL ret R mc ms Ph pc L (.inl (nI b) :: .inl (nI a) :: st) S mu cells slots := zg_iadd hd (zg_val (nI_add a b) k)
theorem zg_imulN {a b : Nat} (hd : decode cc pc = .ok (.imul, 1)) (k : zG own nm cc nL ret R mc ms Ph (pc + 1) L (.inl (nI (a * b)) :: st) S mu cells slots) : zG own nm cc nL ret R mc ms Ph pc L (.inl (nI b) :: .inl (nI a) :: st) S mu cells slots := zg_imul hd (zg_val (pk_mul a b) k)
theorem zg_isubN {a b : Nat} (hd : decode cc pc = .ok (.isub, 1)) (h : b ≤ a) (k : zG own nm cc nL ret R mc ms Ph (pc + 1) L (.inl (nI (a - b)) :: st) S mu cells slots) : zG own nm cc nL ret R mc ms Ph pc L (.inl (nI b) :: .inl (nI a) :: st) S mu cells slots := zg_isub hd (zg_val (pk_sub h) k)
theorem zg_iremN {a b : Nat} (hd : decode cc pc = .ok (.irem, 1)) (h0 : 0 < b) (hb : b < 2 ^ 31) (ha : a < 2 ^ 31) (k : zG own nm cc nL ret R mc ms Ph (pc + 1) L (.inl (nI (a % b)) :: st) S mu cells slots) : zG own nm cc nL ret R mc ms Ph pc L (.inl (nI b) :: .inl (nI a) :: st) S mu cells slots := zg_irem hd (nI_ne0 h0 hb) (zg_val (pk_rem ha h0 hb) k)
theorem zg_iinc1 {i a : Nat} {L2 : List (Option zV)} (hd : decode cc pc = .ok (.iinc i 1, 3)) (hn : i < nL) (hx : L[i]? = some (some (.inl (nI a)))) (hL : L.set i (some (.inl (nI (a + 1)))) = L2) (k : zG own nm cc nL ret R mc ms Ph (pc + 3) L2 st S mu cells slots) : zG own nm cc nL ret R mc ms Ph pc L st S mu cells slots := zg_iinc hd hn hx (nI_1 a) hL k
theorem zg_iincm {i a : Nat} {L2 : List (Option zV)} (hd : decode cc pc = .ok (.iinc i (-1), 3)) (hn : i < nL) (hx : L[i]? = some (some (.inl (nI a)))) (h1 : 1 ≤ a) (hL : L.set i (some (.inl (nI (a - 1)))) = L2) (k : zG own nm cc nL ret R mc ms Ph (pc + 3) L2 st S mu cells slots) : zG own nm cc nL ret R mc ms Ph pc L st S mu cells slots := zg_iinc hd hn hx (by obtain ⟨b, rfl⟩ := Nat.exists_eq_add_of_le h1; rw [Nat.add_comm 1 b, Nat.add_sub_cancel]; exact pk_m1 b) hL k
theorem zg_icmpN_eq {a b : Nat} {off : Int} {tgt : Nat} (hd : decode cc pc = .ok (.if_icmp .eq off, 3)) (ht : (pc : Int) + off = (tgt : Int)) (ha : a < 2 ^ 31) (hb : b < 2 ^ 31) (kt : a = b → zG own nm cc nL ret R mc ms Ph tgt L st S mu cells slots) (kf : ¬ a = b → zG own nm cc nL ret R mc ms Ph (pc + 3) L st S mu cells slots) : zG own nm cc nL ret R mc ms Ph pc L (.inl (nI b) :: .inl (nI a) :: st) S mu cells slots := zg_icmp_eq hd ht (fun q => kt ((nI_eq ha hb).mp q)) (fun q => kf (fun z => q ((nI_eq ha hb).mpr z)))
theorem zg_icmpN_ne {a b : Nat} {off : Int} {tgt : Nat} (hd : decode cc pc = .ok (.if_icmp .ne off, 3)) (ht : (pc : Int) + off = (tgt : Int)) (ha : a < 2 ^ 31) (hb : b < 2 ^ 31) (kt : a ≠ b → zG own nm cc nL ret R mc ms Ph tgt L st S mu cells slots) (kf : a = b → zG own nm cc nL ret R mc ms Ph (pc + 3) L st S mu cells slots) : zG own nm cc nL ret R mc ms Ph pc L (.inl (nI b) :: .inl (nI a) :: st) S mu cells slots := zg_icmp_ne hd ht (fun q => kt (fun z => q ((nI_eq ha hb).mpr z))) (fun q => kf ((nI_eq ha hb).mp q))
theorem zg_icmpN_lt {a b : Nat} {off : Int} {tgt : Nat} (hd : decode cc pc = .ok (.if_icmp .lt off, 3)) (ht : (pc : Int) + off = (tgt : Int)) (ha : a < 2 ^ 31) (hb : b < 2 ^ 31) (kt : a < b → zG own nm cc nL ret R mc ms Ph tgt L st S mu cells slots) (kf : ¬ a < b → zG own nm cc nL ret R mc ms Ph (pc + 3) L st S mu cells slots) : zG own nm cc nL ret R mc ms Ph pc L (.inl (nI b) :: .inl (nI a) :: st) S mu cells slots := zg_icmp_lt hd ht (fun q => kt ((nI_ltI ha hb).mp q)) (fun q => kf (fun z => q ((nI_ltI ha hb).mpr z)))
theorem zg_icmpN_ge {a b : Nat} {off : Int} {tgt : Nat} (hd : decode cc pc = .ok (.if_icmp .ge off, 3)) (ht : (pc : Int) + off = (tgt : Int)) (ha : a < 2 ^ 31) (hb : b < 2 ^ 31) (kt : b ≤ a → zG own nm cc nL ret R mc ms Ph tgt L st S mu cells slots) (kf : ¬ b ≤ a → zG own nm cc nL ret R mc ms Ph (pc + 3) L st S mu cells slots) : zG own nm cc nL ret R mc ms Ph pc L (.inl (nI b) :: .inl (nI a) :: st) S mu cells slots := zg_icmp_ge hd ht (fun q => kt ((nI_leI hb ha).mp q)) (fun q => kf (fun z => q ((nI_leI hb ha).mpr z)))
theorem zg_icmpN_gt {a b : Nat} {off : Int} {tgt : Nat} (hd : decode cc pc = .ok (.if_icmp .gt off, 3)) (ht : (pc : Int) + off = (tgt : Int)) (ha : a < 2 ^ 31) (hb : b < 2 ^ 31) (kt : b < a → zG own nm cc nL ret R mc ms Ph tgt L st S mu cells slots) (kf : ¬ b < a → zG own nm cc nL ret R mc ms Ph (pc + 3) L st S mu cells slots) : zG own nm cc nL ret R mc ms Ph pc L (.inl (nI b) :: .inl (nI a) :: st) S mu cells slots := zg_icmp_gt hd ht (fun q => kt ((nI_ltI hb ha).mp q)) (fun q => kf (fun z => q ((nI_ltI hb ha).mpr z)))
theorem zg_icmpN_le {a b : Nat} {off : Int} {tgt : Nat} (hd : decode cc pc = .ok (.if_icmp .le off, 3)) (ht : (pc : Int) + off = (tgt : Int)) (ha : a < 2 ^ 31) (hb : b < 2 ^ 31) (kt : a ≤ b → zG own nm cc nL ret R mc ms Ph tgt L st S mu cells slots) (kf : ¬ a ≤ b → zG own nm cc nL ret R mc ms Ph (pc + 3) L st S mu cells slots) : zG own nm cc nL ret R mc ms Ph pc L (.inl (nI b) :: .inl (nI a) :: st) S mu cells slots := zg_icmp_le hd ht (fun q => kt ((nI_leI ha hb).mp q)) (fun q => kf (fun z => q ((nI_leI ha hb).mpr z)))
theorem zz31 : (0 : Nat) < 2 ^ 31 := by decide
theorem zg_ifN_eq {a : Nat} {off : Int} {tgt : Nat} (hd : decode cc pc = .ok (.ifCond .eq off, 3)) (ht : (pc : Int) + off = (tgt : Int)) (ha : a < 2 ^ 31) (kt : a = 0 → zG own nm cc nL ret R mc ms Ph tgt L st S mu cells slots) (kf : ¬ a = 0 → zG own nm cc nL ret R mc ms Ph (pc + 3) L st S mu cells slots) : zG own nm cc nL ret R mc ms Ph pc L (.inl (nI a) :: st) S mu cells slots := zg_if_eq hd ht (fun q => kt ((nI_eq ha zz31).mp q)) (fun q => kf (fun z => q ((nI_eq ha zz31).mpr z)))
theorem zg_ifN_ne {a : Nat} {off : Int} {tgt : Nat} (hd : decode cc pc = .ok (.ifCond .ne off, 3)) (ht : (pc : Int) + off = (tgt : Int)) (ha : a < 2 ^ 31) (kt : a ≠ 0 → zG own nm cc nL ret R mc ms Ph tgt L st S mu cells slots) (kf : a = 0 → zG own nm cc nL ret R mc ms Ph (pc + 3) L st S mu cells slots) : zG own nm cc nL ret R mc ms Ph pc L (.inl (nI a) :: st) S mu cells slots := zg_if_ne hd ht (fun q => kt (fun z => q ((nI_eq ha zz31).mpr z))) (fun q => kf ((nI_eq ha zz31).mp q))
theorem zg_ifN_lt {a : Nat} {off : Int} {tgt : Nat} (hd : decode cc pc = .ok (.ifCond .lt off, 3)) (ht : (pc : Int) + off = (tgt : Int)) (ha : a < 2 ^ 31) (kt : a < 0 → zG own nm cc nL ret R mc ms Ph tgt L st S mu cells slots) (kf : ¬ a < 0 → zG own nm cc nL ret R mc ms Ph (pc + 3) L st S mu cells slots) : zG own nm cc nL ret R mc ms Ph pc L (.inl (nI a) :: st) S mu cells slots := zg_if_lt hd ht (fun q => kt ((nI_ltI ha zz31).mp q)) (fun q => kf (fun z => q ((nI_ltI ha zz31).mpr z)))
theorem zg_ifN_ge {a : Nat} {off : Int} {tgt : Nat} (hd : decode cc pc = .ok (.ifCond .ge off, 3)) (ht : (pc : Int) + off = (tgt : Int)) (ha : a < 2 ^ 31) (kt : 0 ≤ a → zG own nm cc nL ret R mc ms Ph tgt L st S mu cells slots) (kf : ¬ 0 ≤ a → zG own nm cc nL ret R mc ms Ph (pc + 3) L st S mu cells slots) : zG own nm cc nL ret R mc ms Ph pc L (.inl (nI a) :: st) S mu cells slots := zg_if_ge hd ht (fun q => kt ((nI_leI zz31 ha).mp q)) (fun q => kf (fun z => q ((nI_leI zz31 ha).mpr z)))
theorem zg_ifN_gt {a : Nat} {off : Int} {tgt : Nat} (hd : decode cc pc = .ok (.ifCond .gt off, 3)) (ht : (pc : Int) + off = (tgt : Int)) (ha : a < 2 ^ 31) (kt : 0 < a → zG own nm cc nL ret R mc ms Ph tgt L st S mu cells slots) (kf : ¬ 0 < a → zG own nm cc nL ret R mc ms Ph (pc + 3) L st S mu cells slots) : zG own nm cc nL ret R mc ms Ph pc L (.inl (nI a) :: st) S mu cells slots := zg_if_gt hd ht (fun q => kt ((nI_ltI zz31 ha).mp q)) (fun q => kf (fun z => q ((nI_ltI zz31 ha).mpr z)))
theorem zg_ifN_le {a : Nat} {off : Int} {tgt : Nat} (hd : decode cc pc = .ok (.ifCond .le off, 3)) (ht : (pc : Int) + off = (tgt : Int)) (ha : a < 2 ^ 31) (kt : a ≤ 0 → zG own nm cc nL ret R mc ms Ph tgt L st S mu cells slots) (kf : ¬ a ≤ 0 → zG own nm cc nL ret R mc ms Ph (pc + 3) L st S mu cells slots) : zG own nm cc nL ret R mc ms Ph pc L (.inl (nI a) :: st) S mu cells slots := zg_if_le hd ht (fun q => kt ((nI_leI ha zz31).mp q)) (fun q => kf (fun z => q ((nI_leI ha zz31).mpr z)))
end ZN
theorem cnX2_init : zcn yX2_init cX2_init 2 0 := ⟨rfl, knX2_init, kiX2, kcX2_init, by decide +kernel⟩
theorem cnX1_init : zcn yX1_init cX1_init 2 0 := ⟨rfl, knX1_init, kiX1, kcX1_init, by decide +kernel⟩
theorem cnX0_init : zcn yX0_init cX0_init 1 0 := ⟨rfl, knX0_init, kiX0, kcX0_init, by decide +kernel⟩
theorem cvX2_append : zcv yX2_append 2 cX2_append 2 (some .int) 1 := ⟨rfl, knX2_append, ksX2_append, kiX2, kcX2_append, by decide +kernel⟩
theorem cvX2_clearText : zcv yX2_clearText 2 cX2_clearText 2 (some .int) 0 := ⟨rfl, knX2_clearText, ksX2_clearText, kiX2, kcX2_clearText, by decide +kernel⟩
theorem cvX2_load : zcv yX2_load 2 cX2_load 2 (some .int) 0 := ⟨rfl, knX2_load, ksX2_load, kiX2, kcX2_load, by decide +kernel⟩
theorem cvX2_errorPosition : zcv yX2_errorPosition 2 cX2_errorPosition 5 (some .int) 0 := ⟨rfl, knX2_errorPosition, ksX2_errorPosition, kiX2, kcX2_errorPosition, by decide +kernel⟩
theorem ctX2_isCode : zct yX2_isCode cX2_isCode 1 (some .boolean) 1 := ⟨ktX2_isCode, kiX2, kcX2_isCode, by decide +kernel⟩
theorem cvX2_keepForUndo : zcv yX2_keepForUndo 2 cX2_keepForUndo 3 none 0 := ⟨rfl, knX2_keepForUndo, ksX2_keepForUndo, kiX2, kcX2_keepForUndo, by decide +kernel⟩
theorem cvX1_copyFrom : zcv yX1_copyFrom 1 cX1_copyFrom 3 none 1 := ⟨rfl, knX1_copyFrom, ksX1_copyFrom, kiX1, kcX1_copyFrom, by decide +kernel⟩
theorem cvX0_copyFrom : zcv yX0_copyFrom 0 cX0_copyFrom 2 none 1 := ⟨rfl, knX0_copyFrom, ksX0_copyFrom, kiX0, kcX0_copyFrom, by decide +kernel⟩
theorem cvX2_readProgram : zcv yX2_readProgram 2 cX2_readProgram 5 none 0 := ⟨rfl, knX2_readProgram, ksX2_readProgram, kiX2, kcX2_readProgram, by decide +kernel⟩
theorem ctX2_isCell : zct yX2_isCell cX2_isCell 2 (some .boolean) 2 := ⟨ktX2_isCell, kiX2, kcX2_isCell, by decide +kernel⟩
theorem cvX1_beginRun : zcv yX1_beginRun 1 cX1_beginRun 1 none 0 := ⟨rfl, knX1_beginRun, ksX1_beginRun, kiX1, kcX1_beginRun, by decide +kernel⟩
theorem cvX0_reset : zcv yX0_reset 0 cX0_reset 1 none 0 := ⟨rfl, knX0_reset, ksX0_reset, kiX0, kcX0_reset, by decide +kernel⟩
theorem cvX1_countFilledCells : zcv yX1_countFilledCells 1 cX1_countFilledCells 3 (some .int) 0 := ⟨rfl, knX1_countFilledCells, ksX1_countFilledCells, kiX1, kcX1_countFilledCells, by decide +kernel⟩
theorem cvX2_rewind : zcv yX2_rewind 2 cX2_rewind 2 (some .int) 0 := ⟨rfl, knX2_rewind, ksX2_rewind, kiX2, kcX2_rewind, by decide +kernel⟩
theorem cvX2_feed : zcv yX2_feed 2 cX2_feed 2 (some .int) 1 := ⟨rfl, knX2_feed, ksX2_feed, kiX2, kcX2_feed, by decide +kernel⟩
theorem cvX1_addInput : zcv yX1_addInput 1 cX1_addInput 2 none 1 := ⟨rfl, knX1_addInput, ksX1_addInput, kiX1, kcX1_addInput, by decide +kernel⟩
theorem cvX2_poke : zcv yX2_poke 2 cX2_poke 6 (some .int) 3 := ⟨rfl, knX2_poke, ksX2_poke, kiX2, kcX2_poke, by decide +kernel⟩
theorem cvX2_tick : zcv yX2_tick 2 cX2_tick 2 (some .int) 1 := ⟨rfl, knX2_tick, ksX2_tick, kiX2, kcX2_tick, by decide +kernel⟩
theorem cvX2_advance : zcv yX2_advance 2 cX2_advance 4 (some .int) 2 := ⟨rfl, knX2_advance, ksX2_advance, kiX2, kcX2_advance, by decide +kernel⟩
theorem ctX2_isTickLimit : zct yX2_isTickLimit cX2_isTickLimit 1 (some .boolean) 1 := ⟨ktX2_isTickLimit, kiX2, kcX2_isTickLimit, by decide +kernel⟩
theorem cvX1_isHalted : zcv yX1_isHalted 1 cX1_isHalted 2 (some .boolean) 0 := ⟨rfl, knX1_isHalted, ksX1_isHalted, kiX1, kcX1_isHalted, by decide +kernel⟩
theorem cvX1_performTick : zcv yX1_performTick 1 cX1_performTick 3 none 0 := ⟨rfl, knX1_performTick, ksX1_performTick, kiX1, kcX1_performTick, by decide +kernel⟩
theorem cvX1_takeTurn : zcv yX1_takeTurn 1 cX1_takeTurn 4 none 1 := ⟨rfl, knX1_takeTurn, ksX1_takeTurn, kiX1, kcX1_takeTurn, by decide +kernel⟩
theorem cvX0_cell : zcv yX0_cell 0 cX0_cell 1 (some .int) 0 := ⟨rfl, knX0_cell, ksX0_cell, kiX0, kcX0_cell, by decide +kernel⟩
theorem cvX1_fetchCell : zcv yX1_fetchCell 1 cX1_fetchCell 4 none 1 := ⟨rfl, knX1_fetchCell, ksX1_fetchCell, kiX1, kcX1_fetchCell, by decide +kernel⟩
theorem cvX0_pop : zcv yX0_pop 0 cX0_pop 2 (some .int) 0 := ⟨rfl, knX0_pop, ksX0_pop, kiX0, kcX0_pop, by decide +kernel⟩
theorem ctX1_wrappedCell : zct yX1_wrappedCell cX1_wrappedCell 2 (some .int) 2 := ⟨ktX1_wrappedCell, kiX1, kcX1_wrappedCell, by decide +kernel⟩
theorem ctJ9_floorMod_7cf53 : zct yJ9_floorMod_7cf53 cJ9_floorMod_7cf53 3 (some .int) 2 := ⟨ktJ9_floorMod_7cf53, kiJ9, kcJ9_floorMod_7cf53, by decide +kernel⟩
theorem cvX0_push : zcv yX0_push 0 cX0_push 2 none 1 := ⟨rfl, knX0_push, ksX0_push, kiX0, kcX0_push, by decide +kernel⟩
theorem cvX1_storeCell : zcv yX1_storeCell 1 cX1_storeCell 5 none 1 := ⟨rfl, knX1_storeCell, ksX1_storeCell, kiX1, kcX1_storeCell, by decide +kernel⟩
theorem cvX1_addOutput : zcv yX1_addOutput 1 cX1_addOutput 2 none 1 := ⟨rfl, knX1_addOutput, ksX1_addOutput, kiX1, kcX1_addOutput, by decide +kernel⟩
theorem cvX1_takeInput : zcv yX1_takeInput 1 cX1_takeInput 3 none 1 := ⟨rfl, knX1_takeInput, ksX1_takeInput, kiX1, kcX1_takeInput, by decide +kernel⟩
theorem cvX0_turn : zcv yX0_turn 0 cX0_turn 2 none 1 := ⟨rfl, knX0_turn, ksX0_turn, kiX0, kcX0_turn, by decide +kernel⟩
theorem cvX1_split : zcv yX1_split 1 cX1_split 5 none 1 := ⟨rfl, knX1_split, ksX1_split, kiX1, kcX1_split, by decide +kernel⟩
theorem cvX0_step : zcv yX0_step 0 cX0_step 1 none 0 := ⟨rfl, knX0_step, ksX0_step, kiX0, kcX0_step, by decide +kernel⟩
theorem cvX0_perform : zcv yX0_perform 0 cX0_perform 7 none 1 := ⟨rfl, knX0_perform, ksX0_perform, kiX0, kcX0_perform, by decide +kernel⟩
theorem ctX0_combine : zct yX0_combine cX0_combine 3 (some .int) 3 := ⟨ktX0_combine, kiX0, kcX0_combine, by decide +kernel⟩
theorem cvX0_openStack : zcv yX0_openStack 0 cX0_openStack 3 none 1 := ⟨rfl, knX0_openStack, ksX0_openStack, kiX0, kcX0_openStack, by decide +kernel⟩
theorem cvX0_movable : zcv yX0_movable 0 cX0_movable 3 (some .int) 1 := ⟨rfl, knX0_movable, ksX0_movable, kiX0, kcX0_movable, by decide +kernel⟩
theorem cvX0_closeStack : zcv yX0_closeStack 0 cX0_closeStack 4 none 0 := ⟨rfl, knX0_closeStack, ksX0_closeStack, kiX0, kcX0_closeStack, by decide +kernel⟩
theorem ctJ9_min_7cf53 : zct yJ9_min_7cf53 cJ9_min_7cf53 2 (some .int) 2 := ⟨ktJ9_min_7cf53, kiJ9, kcJ9_min_7cf53, by decide +kernel⟩
theorem ctJ9_max_7cf53 : zct yJ9_max_7cf53 cJ9_max_7cf53 2 (some .int) 2 := ⟨ktJ9_max_7cf53, kiJ9, kcJ9_max_7cf53, by decide +kernel⟩
theorem cvX0_steer : zcv yX0_steer 0 cX0_steer 2 none 1 := ⟨rfl, knX0_steer, ksX0_steer, kiX0, kcX0_steer, by decide +kernel⟩
theorem cvX2_atBreakpoint : zcv yX2_atBreakpoint 2 cX2_atBreakpoint 3 (some .boolean) 0 := ⟨rfl, knX2_atBreakpoint, ksX2_atBreakpoint, kiX2, kcX2_atBreakpoint, by decide +kernel⟩
theorem cvX2_run : zcv yX2_run 2 cX2_run 2 (some .int) 1 := ⟨rfl, knX2_run, ksX2_run, kiX2, kcX2_run, by decide +kernel⟩
theorem cvX2_setBreakpoint : zcv yX2_setBreakpoint 2 cX2_setBreakpoint 6 (some .int) 3 := ⟨rfl, knX2_setBreakpoint, ksX2_setBreakpoint, kiX2, kcX2_setBreakpoint, by decide +kernel⟩
theorem cvX2_undo : zcv yX2_undo 2 cX2_undo 1 (some .int) 0 := ⟨rfl, knX2_undo, ksX2_undo, kiX2, kcX2_undo, by decide +kernel⟩
theorem cvX2_ticksToHalt : zcv yX2_ticksToHalt 2 cX2_ticksToHalt 3 (some .int) 1 := ⟨rfl, knX2_ticksToHalt, ksX2_ticksToHalt, kiX2, kcX2_ticksToHalt, by decide +kernel⟩
theorem cvX2_cycleStart : zcv yX2_cycleStart 2 cX2_cycleStart 3 (some .int) 1 := ⟨rfl, knX2_cycleStart, ksX2_cycleStart, kiX2, kcX2_cycleStart, by decide +kernel⟩
theorem cvX2_findPeriod : zcv yX2_findPeriod 2 cX2_findPeriod 3 (some .int) 1 := ⟨rfl, knX2_findPeriod, ksX2_findPeriod, kiX2, kcX2_findPeriod, by decide +kernel⟩
theorem cvX1_hasConfigurationOf : zcv yX1_hasConfigurationOf 1 cX1_hasConfigurationOf 3 (some .boolean) 1 := ⟨rfl, knX1_hasConfigurationOf, ksX1_hasConfigurationOf, kiX1, kcX1_hasConfigurationOf, by decide +kernel⟩
theorem cvX0_isLike : zcv yX0_isLike 0 cX0_isLike 3 (some .boolean) 1 := ⟨rfl, knX0_isLike, ksX0_isLike, kiX0, kcX0_isLike, by decide +kernel⟩
theorem cvX2_findCycleEntry : zcv yX2_findCycleEntry 2 cX2_findCycleEntry 4 (some .int) 2 := ⟨rfl, knX2_findCycleEntry, ksX2_findCycleEntry, kiX2, kcX2_findCycleEntry, by decide +kernel⟩
theorem cvX2_cycleLength : zcv yX2_cycleLength 2 cX2_cycleLength 3 (some .int) 1 := ⟨rfl, knX2_cycleLength, ksX2_cycleLength, kiX2, kcX2_cycleLength, by decide +kernel⟩
theorem cvX2_cellAt : zcv yX2_cellAt 2 cX2_cellAt 3 (some .int) 2 := ⟨rfl, knX2_cellAt, ksX2_cellAt, kiX2, kcX2_cellAt, by decide +kernel⟩
theorem cvX2_changedCells : zcv yX2_changedCells 2 cX2_changedCells 3 (some .int) 0 := ⟨rfl, knX2_changedCells, ksX2_changedCells, kiX2, kcX2_changedCells, by decide +kernel⟩
theorem cvX2_pointerCount : zcv yX2_pointerCount 2 cX2_pointerCount 1 (some .int) 0 := ⟨rfl, knX2_pointerCount, ksX2_pointerCount, kiX2, kcX2_pointerCount, by decide +kernel⟩
theorem cvX2_pointerAt : zcv yX2_pointerAt 2 cX2_pointerAt 2 (some .int) 1 := ⟨rfl, knX2_pointerAt, ksX2_pointerAt, kiX2, kcX2_pointerAt, by decide +kernel⟩
theorem cvX2_isPointer : zcv yX2_isPointer 2 cX2_isPointer 2 (some .boolean) 1 := ⟨rfl, knX2_isPointer, ksX2_isPointer, kiX2, kcX2_isPointer, by decide +kernel⟩
theorem cvX2_position : zcv yX2_position 2 cX2_position 2 (some .int) 1 := ⟨rfl, knX2_position, ksX2_position, kiX2, kcX2_position, by decide +kernel⟩
theorem cvX2_direction : zcv yX2_direction 2 cX2_direction 2 (some .int) 1 := ⟨rfl, knX2_direction, ksX2_direction, kiX2, kcX2_direction, by decide +kernel⟩
theorem cvX2_status : zcv yX2_status 2 cX2_status 2 (some .int) 1 := ⟨rfl, knX2_status, ksX2_status, kiX2, kcX2_status, by decide +kernel⟩
theorem cvX2_sleep : zcv yX2_sleep 2 cX2_sleep 2 (some .int) 1 := ⟨rfl, knX2_sleep, ksX2_sleep, kiX2, kcX2_sleep, by decide +kernel⟩
theorem cvX2_stackCount : zcv yX2_stackCount 2 cX2_stackCount 2 (some .int) 1 := ⟨rfl, knX2_stackCount, ksX2_stackCount, kiX2, kcX2_stackCount, by decide +kernel⟩
theorem cvX2_stackSize : zcv yX2_stackSize 2 cX2_stackSize 3 (some .int) 2 := ⟨rfl, knX2_stackSize, ksX2_stackSize, kiX2, kcX2_stackSize, by decide +kernel⟩
theorem cvX2_isStack : zcv yX2_isStack 2 cX2_isStack 3 (some .boolean) 2 := ⟨rfl, knX2_isStack, ksX2_isStack, kiX2, kcX2_isStack, by decide +kernel⟩
theorem cvX2_valueAt : zcv yX2_valueAt 2 cX2_valueAt 5 (some .int) 3 := ⟨rfl, knX2_valueAt, ksX2_valueAt, kiX2, kcX2_valueAt, by decide +kernel⟩
theorem cvX0_stackBegin : zcv yX0_stackBegin 0 cX0_stackBegin 4 (some .int) 1 := ⟨rfl, knX0_stackBegin, ksX0_stackBegin, kiX0, kcX0_stackBegin, by decide +kernel⟩
theorem cvX2_inputSize : zcv yX2_inputSize 2 cX2_inputSize 1 (some .int) 0 := ⟨rfl, knX2_inputSize, ksX2_inputSize, kiX2, kcX2_inputSize, by decide +kernel⟩
theorem cvX2_outputSize : zcv yX2_outputSize 2 cX2_outputSize 1 (some .int) 0 := ⟨rfl, knX2_outputSize, ksX2_outputSize, kiX2, kcX2_outputSize, by decide +kernel⟩
theorem cvX2_outputAt : zcv yX2_outputAt 2 cX2_outputAt 2 (some .int) 1 := ⟨rfl, knX2_outputAt, ksX2_outputAt, kiX2, kcX2_outputAt, by decide +kernel⟩
theorem cvX2_outputTotal : zcv yX2_outputTotal 2 cX2_outputTotal 1 (some .int) 0 := ⟨rfl, knX2_outputTotal, ksX2_outputTotal, kiX2, kcX2_outputTotal, by decide +kernel⟩
theorem cvX2_tickCount : zcv yX2_tickCount 2 cX2_tickCount 1 (some .int) 0 := ⟨rfl, knX2_tickCount, ksX2_tickCount, kiX2, kcX2_tickCount, by decide +kernel⟩
theorem cvX2_save : zcv yX2_save 2 cX2_save 2 (some .int) 1 := ⟨rfl, knX2_save, ksX2_save, kiX2, kcX2_save, by decide +kernel⟩
theorem cvX2_restore : zcv yX2_restore 2 cX2_restore 2 (some .int) 1 := ⟨rfl, knX2_restore, ksX2_restore, kiX2, kcX2_restore, by decide +kernel⟩
theorem cvX2_undoDepth : zcv yX2_undoDepth 2 cX2_undoDepth 1 (some .int) 0 := ⟨rfl, knX2_undoDepth, ksX2_undoDepth, kiX2, kcX2_undoDepth, by decide +kernel⟩
theorem cnX3_init : zcn yX3_init cX3_init 2 0 := ⟨rfl, knX3_init, kiX3, kcX3_init, by decide +kernel⟩
theorem cvX3_begin : zcv yX3_begin 3 cX3_begin 2 none 0 := ⟨rfl, knX3_begin, ksX3_begin, kiX3, kcX3_begin, by decide +kernel⟩
theorem cvX3_undo : zcv yX3_undo 3 cX3_undo 2 (some .int) 0 := ⟨rfl, knX3_undo, ksX3_undo, kiX3, kcX3_undo, by decide +kernel⟩
theorem cvX3_append : zcv yX3_append 3 cX3_append 2 (some .int) 1 := ⟨rfl, knX3_append, ksX3_append, kiX3, kcX3_append, by decide +kernel⟩
theorem ctX3_in : zct yX3_in cX3_in 3 (some .boolean) 3 := ⟨ktX3_in, kiX3, kcX3_in, by decide +kernel⟩
theorem cvX3_clearText : zcv yX3_clearText 3 cX3_clearText 2 (some .int) 0 := ⟨rfl, knX3_clearText, ksX3_clearText, kiX3, kcX3_clearText, by decide +kernel⟩
theorem cvX3_load : zcv yX3_load 3 cX3_load 6 (some .int) 0 := ⟨rfl, knX3_load, ksX3_load, kiX3, kcX3_load, by decide +kernel⟩
theorem cvX3_errorPosition : zcv yX3_errorPosition 3 cX3_errorPosition 6 (some .int) 0 := ⟨rfl, knX3_errorPosition, ksX3_errorPosition, kiX3, kcX3_errorPosition, by decide +kernel⟩
theorem cvX3_remember : zcv yX3_remember 3 cX3_remember 2 none 0 := ⟨rfl, knX3_remember, ksX3_remember, kiX3, kcX3_remember, by decide +kernel⟩
theorem cvX3_saveBefore : zcv yX3_saveBefore 3 cX3_saveBefore 2 none 0 := ⟨rfl, knX3_saveBefore, ksX3_saveBefore, kiX3, kcX3_saveBefore, by decide +kernel⟩
theorem cvX3_rewind : zcv yX3_rewind 3 cX3_rewind 2 (some .int) 0 := ⟨rfl, knX3_rewind, ksX3_rewind, kiX3, kcX3_rewind, by decide +kernel⟩
theorem cvX3_feed : zcv yX3_feed 3 cX3_feed 2 (some .int) 1 := ⟨rfl, knX3_feed, ksX3_feed, kiX3, kcX3_feed, by decide +kernel⟩
theorem cvX3_poke : zcv yX3_poke 3 cX3_poke 6 (some .int) 3 := ⟨rfl, knX3_poke, ksX3_poke, kiX3, kcX3_poke, by decide +kernel⟩
theorem ctX3_isCell : zct yX3_isCell cX3_isCell 2 (some .boolean) 2 := ⟨ktX3_isCell, kiX3, kcX3_isCell, by decide +kernel⟩
theorem cvX3_tick : zcv yX3_tick 3 cX3_tick 2 (some .int) 1 := ⟨rfl, knX3_tick, ksX3_tick, kiX3, kcX3_tick, by decide +kernel⟩
theorem cvX3_perform : zcv yX3_perform 3 cX3_perform 5 (some .int) 2 := ⟨rfl, knX3_perform, ksX3_perform, kiX3, kcX3_perform, by decide +kernel⟩
theorem cvX3_isHalted : zcv yX3_isHalted 3 cX3_isHalted 3 (some .boolean) 0 := ⟨rfl, knX3_isHalted, ksX3_isHalted, kiX3, kcX3_isHalted, by decide +kernel⟩
theorem cvX3_of : zcv yX3_of 3 cX3_of 3 (some .int) 2 := ⟨rfl, knX3_of, ksX3_of, kiX3, kcX3_of, by decide +kernel⟩
theorem cvX3_step : zcv yX3_step 3 cX3_step 3 none 0 := ⟨rfl, knX3_step, ksX3_step, kiX3, kcX3_step, by decide +kernel⟩
theorem cvX3_takeTurn : zcv yX3_takeTurn 3 cX3_takeTurn 2 none 1 := ⟨rfl, knX3_takeTurn, ksX3_takeTurn, kiX3, kcX3_takeTurn, by decide +kernel⟩
theorem cvX3_put : zcv yX3_put 3 cX3_put 4 none 3 := ⟨rfl, knX3_put, ksX3_put, kiX3, kcX3_put, by decide +kernel⟩
theorem cvX3_execute : zcv yX3_execute 3 cX3_execute 5 none 2 := ⟨rfl, knX3_execute, ksX3_execute, kiX3, kcX3_execute, by decide +kernel⟩
theorem cvX3_push : zcv yX3_push 3 cX3_push 4 none 2 := ⟨rfl, knX3_push, ksX3_push, kiX3, kcX3_push, by decide +kernel⟩
theorem cvX3_heldBy : zcv yX3_heldBy 3 cX3_heldBy 2 (some .int) 1 := ⟨rfl, knX3_heldBy, ksX3_heldBy, kiX3, kcX3_heldBy, by decide +kernel⟩
theorem cvX3_current : zcv yX3_current 3 cX3_current 2 (some .int) 1 := ⟨rfl, knX3_current, ksX3_current, kiX3, kcX3_current, by decide +kernel⟩
theorem cvX3_pop : zcv yX3_pop 3 cX3_pop 5 (some .int) 1 := ⟨rfl, knX3_pop, ksX3_pop, kiX3, kcX3_pop, by decide +kernel⟩
theorem ctX3_operate : zct yX3_operate cX3_operate 3 (some .int) 3 := ⟨ktX3_operate, kiX3, kcX3_operate, by decide +kernel⟩
theorem cvX3_duplicate : zcv yX3_duplicate 3 cX3_duplicate 3 none 1 := ⟨rfl, knX3_duplicate, ksX3_duplicate, kiX3, kcX3_duplicate, by decide +kernel⟩
theorem cvX3_swapTop : zcv yX3_swapTop 3 cX3_swapTop 4 none 1 := ⟨rfl, knX3_swapTop, ksX3_swapTop, kiX3, kcX3_swapTop, by decide +kernel⟩
theorem cvX3_turn : zcv yX3_turn 3 cX3_turn 3 none 2 := ⟨rfl, knX3_turn, ksX3_turn, kiX3, kcX3_turn, by decide +kernel⟩
theorem cvX3_move : zcv yX3_move 3 cX3_move 5 none 1 := ⟨rfl, knX3_move, ksX3_move, kiX3, kcX3_move, by decide +kernel⟩
theorem cvX3_fetch : zcv yX3_fetch 3 cX3_fetch 4 none 1 := ⟨rfl, knX3_fetch, ksX3_fetch, kiX3, kcX3_fetch, by decide +kernel⟩
theorem ctX3_cell : zct yX3_cell cX3_cell 2 (some .int) 2 := ⟨ktX3_cell, kiX3, kcX3_cell, by decide +kernel⟩
theorem ctX3_modulo : zct yX3_modulo cX3_modulo 3 (some .int) 2 := ⟨ktX3_modulo, kiX3, kcX3_modulo, by decide +kernel⟩
theorem cvX3_store : zcv yX3_store 3 cX3_store 5 none 1 := ⟨rfl, knX3_store, ksX3_store, kiX3, kcX3_store, by decide +kernel⟩
theorem cvX3_output : zcv yX3_output 3 cX3_output 3 none 1 := ⟨rfl, knX3_output, ksX3_output, kiX3, kcX3_output, by decide +kernel⟩
theorem cvX3_input : zcv yX3_input 3 cX3_input 4 none 1 := ⟨rfl, knX3_input, ksX3_input, kiX3, kcX3_input, by decide +kernel⟩
theorem ctX3_clamp : zct yX3_clamp cX3_clamp 2 (some .int) 2 := ⟨ktX3_clamp, kiX3, kcX3_clamp, by decide +kernel⟩
theorem cvX3_split : zcv yX3_split 3 cX3_split 4 none 1 := ⟨rfl, knX3_split, ksX3_split, kiX3, kcX3_split, by decide +kernel⟩
theorem cvX3_openStack : zcv yX3_openStack 3 cX3_openStack 5 none 1 := ⟨rfl, knX3_openStack, ksX3_openStack, kiX3, kcX3_openStack, by decide +kernel⟩
theorem cvX3_closeStack : zcv yX3_closeStack 3 cX3_closeStack 8 none 1 := ⟨rfl, knX3_closeStack, ksX3_closeStack, kiX3, kcX3_closeStack, by decide +kernel⟩
theorem cvX3_isAtBreakpoint : zcv yX3_isAtBreakpoint 3 cX3_isAtBreakpoint 3 (some .boolean) 0 := ⟨rfl, knX3_isAtBreakpoint, ksX3_isAtBreakpoint, kiX3, kcX3_isAtBreakpoint, by decide +kernel⟩
theorem cvX3_run : zcv yX3_run 3 cX3_run 2 (some .int) 1 := ⟨rfl, knX3_run, ksX3_run, kiX3, kcX3_run, by decide +kernel⟩
theorem cvX3_setBreakpoint : zcv yX3_setBreakpoint 3 cX3_setBreakpoint 5 (some .int) 3 := ⟨rfl, knX3_setBreakpoint, ksX3_setBreakpoint, kiX3, kcX3_setBreakpoint, by decide +kernel⟩
theorem cvX3_breakpoints : zcv yX3_breakpoints 3 cX3_breakpoints 3 (some .int) 0 := ⟨rfl, knX3_breakpoints, ksX3_breakpoints, kiX3, kcX3_breakpoints, by decide +kernel⟩
theorem cvX3_ticksToHalt : zcv yX3_ticksToHalt 3 cX3_ticksToHalt 2 (some .int) 1 := ⟨rfl, knX3_ticksToHalt, ksX3_ticksToHalt, kiX3, kcX3_ticksToHalt, by decide +kernel⟩
theorem cvX3_halts : zcv yX3_halts 3 cX3_halts 4 (some .int) 1 := ⟨rfl, knX3_halts, ksX3_halts, kiX3, kcX3_halts, by decide +kernel⟩
theorem cvX3_setAside : zcv yX3_setAside 3 cX3_setAside 2 none 0 := ⟨rfl, knX3_setAside, ksX3_setAside, kiX3, kcX3_setAside, by decide +kernel⟩
theorem cvX3_takeBack : zcv yX3_takeBack 3 cX3_takeBack 2 none 0 := ⟨rfl, knX3_takeBack, ksX3_takeBack, kiX3, kcX3_takeBack, by decide +kernel⟩
theorem cvX3_cycleStart : zcv yX3_cycleStart 3 cX3_cycleStart 2 (some .int) 1 := ⟨rfl, knX3_cycleStart, ksX3_cycleStart, kiX3, kcX3_cycleStart, by decide +kernel⟩
theorem cvX3_findCycle : zcv yX3_findCycle 3 cX3_findCycle 4 none 1 := ⟨rfl, knX3_findCycle, ksX3_findCycle, kiX3, kcX3_findCycle, by decide +kernel⟩
theorem cvX3_isSameAsFirst : zcv yX3_isSameAsFirst 3 cX3_isSameAsFirst 3 (some .boolean) 0 := ⟨rfl, knX3_isSameAsFirst, ksX3_isSameAsFirst, kiX3, kcX3_isSameAsFirst, by decide +kernel⟩
theorem cvX3_cycleLength : zcv yX3_cycleLength 3 cX3_cycleLength 2 (some .int) 1 := ⟨rfl, knX3_cycleLength, ksX3_cycleLength, kiX3, kcX3_cycleLength, by decide +kernel⟩
theorem cvX3_cellAt : zcv yX3_cellAt 3 cX3_cellAt 3 (some .int) 2 := ⟨rfl, knX3_cellAt, ksX3_cellAt, kiX3, kcX3_cellAt, by decide +kernel⟩
theorem cvX3_changedCells : zcv yX3_changedCells 3 cX3_changedCells 3 (some .int) 0 := ⟨rfl, knX3_changedCells, ksX3_changedCells, kiX3, kcX3_changedCells, by decide +kernel⟩
theorem cvX3_pointerCount : zcv yX3_pointerCount 3 cX3_pointerCount 1 (some .int) 0 := ⟨rfl, knX3_pointerCount, ksX3_pointerCount, kiX3, kcX3_pointerCount, by decide +kernel⟩
theorem cvX3_pointerAt : zcv yX3_pointerAt 3 cX3_pointerAt 2 (some .int) 1 := ⟨rfl, knX3_pointerAt, ksX3_pointerAt, kiX3, kcX3_pointerAt, by decide +kernel⟩
theorem cvX3_isPointer : zcv yX3_isPointer 3 cX3_isPointer 2 (some .boolean) 1 := ⟨rfl, knX3_isPointer, ksX3_isPointer, kiX3, kcX3_isPointer, by decide +kernel⟩
theorem cvX3_position : zcv yX3_position 3 cX3_position 2 (some .int) 1 := ⟨rfl, knX3_position, ksX3_position, kiX3, kcX3_position, by decide +kernel⟩
theorem cvX3_direction : zcv yX3_direction 3 cX3_direction 2 (some .int) 1 := ⟨rfl, knX3_direction, ksX3_direction, kiX3, kcX3_direction, by decide +kernel⟩
theorem cvX3_status : zcv yX3_status 3 cX3_status 2 (some .int) 1 := ⟨rfl, knX3_status, ksX3_status, kiX3, kcX3_status, by decide +kernel⟩
theorem cvX3_sleep : zcv yX3_sleep 3 cX3_sleep 2 (some .int) 1 := ⟨rfl, knX3_sleep, ksX3_sleep, kiX3, kcX3_sleep, by decide +kernel⟩
theorem cvX3_stackCount : zcv yX3_stackCount 3 cX3_stackCount 2 (some .int) 1 := ⟨rfl, knX3_stackCount, ksX3_stackCount, kiX3, kcX3_stackCount, by decide +kernel⟩
theorem cvX3_stackSize : zcv yX3_stackSize 3 cX3_stackSize 3 (some .int) 2 := ⟨rfl, knX3_stackSize, ksX3_stackSize, kiX3, kcX3_stackSize, by decide +kernel⟩
theorem cvX3_isStack : zcv yX3_isStack 3 cX3_isStack 3 (some .boolean) 2 := ⟨rfl, knX3_isStack, ksX3_isStack, kiX3, kcX3_isStack, by decide +kernel⟩
theorem cvX3_valueAt : zcv yX3_valueAt 3 cX3_valueAt 6 (some .int) 3 := ⟨rfl, knX3_valueAt, ksX3_valueAt, kiX3, kcX3_valueAt, by decide +kernel⟩
theorem cvX3_inputSize : zcv yX3_inputSize 3 cX3_inputSize 1 (some .int) 0 := ⟨rfl, knX3_inputSize, ksX3_inputSize, kiX3, kcX3_inputSize, by decide +kernel⟩
theorem cvX3_outputSize : zcv yX3_outputSize 3 cX3_outputSize 1 (some .int) 0 := ⟨rfl, knX3_outputSize, ksX3_outputSize, kiX3, kcX3_outputSize, by decide +kernel⟩
theorem cvX3_outputAt : zcv yX3_outputAt 3 cX3_outputAt 2 (some .int) 1 := ⟨rfl, knX3_outputAt, ksX3_outputAt, kiX3, kcX3_outputAt, by decide +kernel⟩
theorem cvX3_outputTotal : zcv yX3_outputTotal 3 cX3_outputTotal 1 (some .int) 0 := ⟨rfl, knX3_outputTotal, ksX3_outputTotal, kiX3, kcX3_outputTotal, by decide +kernel⟩
theorem cvX3_tickCount : zcv yX3_tickCount 3 cX3_tickCount 1 (some .int) 0 := ⟨rfl, knX3_tickCount, ksX3_tickCount, kiX3, kcX3_tickCount, by decide +kernel⟩
theorem cvX3_save : zcv yX3_save 3 cX3_save 3 (some .int) 1 := ⟨rfl, knX3_save, ksX3_save, kiX3, kcX3_save, by decide +kernel⟩
theorem cvX3_restore : zcv yX3_restore 3 cX3_restore 3 (some .int) 1 := ⟨rfl, knX3_restore, ksX3_restore, kiX3, kcX3_restore, by decide +kernel⟩
theorem cvX3_undoDepth : zcv yX3_undoDepth 3 cX3_undoDepth 1 (some .int) 0 := ⟨rfl, knX3_undoDepth, ksX3_undoDepth, kiX3, kcX3_undoDepth, by decide +kernel⟩
