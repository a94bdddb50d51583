/-- the words that every method takes along: those of the tables that stay good over calls -/
def zwd : List Cond := lw_tbl.filter goodWord
theorem zmem {w : Cond} (h : w ∈ lw_tbl) (hg : goodWord w = true) : w ∈ zwd := List.mem_filter.mpr ⟨h, hg⟩
theorem zgood {w : Cond} (h : w ∈ zwd) : (w.onTables && w.keeps) = true ∨ ∃ ty, w = .arrayClass ty := good_of_word (List.mem_filter.mp h).2
theorem ztbl {w : Cond} (h : w ∈ zwd) : w ∈ lw_tbl := (List.mem_filter.mp h).1
/-- a field's link: pool entry ix of own is slot j of class ci -/
def zfl (own : String) (ix ci j : Nat) : Prop := ∃ (C : String) (T : u_T) (N : Nat), vwCl[ci]? = some (C, T, N) ∧ j < N ∧ Cond.fieldLink own ix (T j).1 (T j).2.1 (T j).2.2.1 ∈ zwd
theorem kcX2_init : Cond.code yX2_init cX2_init 2 none ∈ zwd := zmem (List.mem_append_right _ (List.mem_append_left _ (List.mem_of_getElem? (i := 11) rfl))) rfl
theorem kcX1_init : Cond.code yX1_init cX1_init 2 none ∈ zwd := zmem (List.mem_append_right _ (List.mem_append_left _ (List.mem_of_getElem? (i := 19) rfl))) rfl
theorem kcX0_init : Cond.code yX0_init cX0_init 1 none ∈ zwd := zmem (List.mem_append_right _ (List.mem_append_left _ (List.mem_of_getElem? (i := 26) rfl))) rfl
theorem kcX2_append : Cond.code yX2_append cX2_append 2 (some .int) ∈ zwd := zmem (List.mem_append_right _ (List.mem_append_left _ (List.mem_of_getElem? (i := 148) rfl))) rfl
theorem kcX2_clearText : Cond.code yX2_clearText cX2_clearText 2 (some .int) ∈ zwd := zmem (List.mem_append_right _ (List.mem_append_left _ (List.mem_of_getElem? (i := 152) rfl))) rfl
theorem kcX2_load : Cond.code yX2_load cX2_load 2 (some .int) ∈ zwd := zmem (List.mem_append_right _ (List.mem_append_left _ (List.mem_of_getElem? (i := 156) rfl))) rfl
theorem kcX2_errorPosition : Cond.code yX2_errorPosition cX2_errorPosition 5 (some .int) ∈ zwd := zmem (List.mem_append_right _ (List.mem_append_left _ (List.mem_of_getElem? (i := 160) rfl))) rfl
theorem kcX2_isCode : Cond.code yX2_isCode cX2_isCode 1 (some .boolean) ∈ zwd := zmem (List.mem_append_right _ (List.mem_append_left _ (List.mem_of_getElem? (i := 163) rfl))) rfl
theorem kcX2_keepForUndo : Cond.code yX2_keepForUndo cX2_keepForUndo 3 none ∈ zwd := zmem (List.mem_append_right _ (List.mem_append_left _ (List.mem_of_getElem? (i := 167) rfl))) rfl
theorem kcX1_copyFrom : Cond.code yX1_copyFrom cX1_copyFrom 3 none ∈ zwd := zmem (List.mem_append_right _ (List.mem_append_left _ (List.mem_of_getElem? (i := 171) rfl))) rfl
theorem kcX0_copyFrom : Cond.code yX0_copyFrom cX0_copyFrom 2 none ∈ zwd := zmem (List.mem_append_right _ (List.mem_append_left _ (List.mem_of_getElem? (i := 178) rfl))) rfl
theorem kcX2_readProgram : Cond.code yX2_readProgram cX2_readProgram 5 none ∈ zwd := zmem (List.mem_append_right _ (List.mem_append_left _ (List.mem_of_getElem? (i := 183) rfl))) rfl
theorem kcX2_isCell : Cond.code yX2_isCell cX2_isCell 2 (some .boolean) ∈ zwd := zmem (List.mem_append_right _ (List.mem_append_left _ (List.mem_of_getElem? (i := 186) rfl))) rfl
theorem kcX1_beginRun : Cond.code yX1_beginRun cX1_beginRun 1 none ∈ zwd := zmem (List.mem_append_right _ (List.mem_append_left _ (List.mem_of_getElem? (i := 190) rfl))) rfl
theorem kcX0_reset : Cond.code yX0_reset cX0_reset 1 none ∈ zwd := zmem (List.mem_append_right _ (List.mem_append_left _ (List.mem_of_getElem? (i := 194) rfl))) rfl
theorem kcX1_countFilledCells : Cond.code yX1_countFilledCells cX1_countFilledCells 3 (some .int) ∈ zwd := zmem (List.mem_append_right _ (List.mem_append_left _ (List.mem_of_getElem? (i := 198) rfl))) rfl
theorem kcX2_rewind : Cond.code yX2_rewind cX2_rewind 2 (some .int) ∈ zwd := zmem (List.mem_append_right _ (List.mem_append_left _ (List.mem_of_getElem? (i := 202) rfl))) rfl
theorem kcX2_feed : Cond.code yX2_feed cX2_feed 2 (some .int) ∈ zwd := zmem (List.mem_append_right _ (List.mem_append_left _ (List.mem_of_getElem? (i := 206) rfl))) rfl
theorem kcX1_addInput : Cond.code yX1_addInput cX1_addInput 2 none ∈ zwd := zmem (List.mem_append_right _ (List.mem_append_left _ (List.mem_of_getElem? (i := 210) rfl))) rfl
theorem kcX2_poke : Cond.code yX2_poke cX2_poke 6 (some .int) ∈ zwd := zmem (List.mem_append_right _ (List.mem_append_left _ (List.mem_of_getElem? (i := 214) rfl))) rfl
theorem kcX2_tick : Cond.code yX2_tick cX2_tick 2 (some .int) ∈ zwd := zmem (List.mem_append_right _ (List.mem_append_left _ (List.mem_of_getElem? (i := 218) rfl))) rfl
theorem kcX2_advance : Cond.code yX2_advance cX2_advance 4 (some .int) ∈ zwd := zmem (List.mem_append_right _ (List.mem_append_left _ (List.mem_of_getElem? (i := 222) rfl))) rfl
theorem kcX2_isTickLimit : Cond.code yX2_isTickLimit cX2_isTickLimit 1 (some .boolean) ∈ zwd := zmem (List.mem_append_right _ (List.mem_append_left _ (List.mem_of_getElem? (i := 225) rfl))) rfl
theorem kcX1_isHalted : Cond.code yX1_isHalted cX1_isHalted 2 (some .boolean) ∈ zwd := zmem (List.mem_append_right _ (List.mem_append_left _ (List.mem_of_getElem? (i := 229) rfl))) rfl
theorem kcX1_performTick : Cond.code yX1_performTick cX1_performTick 3 none ∈ zwd := zmem (List.mem_append_right _ (List.mem_append_left _ (List.mem_of_getElem? (i := 233) rfl))) rfl
theorem kcX1_takeTurn : Cond.code yX1_takeTurn cX1_takeTurn 4 none ∈ zwd := zmem (List.mem_append_right _ (List.mem_append_left _ (List.mem_of_getElem? (i := 237) rfl))) rfl
theorem kcX0_cell : Cond.code yX0_cell cX0_cell 1 (some .int) ∈ zwd := zmem (List.mem_append_right _ (List.mem_append_right _ (List.mem_append_left _ (List.mem_of_getElem? (i := 1) rfl)))) rfl
theorem kcX1_fetchCell : Cond.code yX1_fetchCell cX1_fetchCell 4 none ∈ zwd := zmem (List.mem_append_right _ (List.mem_append_right _ (List.mem_append_left _ (List.mem_of_getElem? (i := 5) rfl)))) rfl
theorem kcX0_pop : Cond.code yX0_pop cX0_pop 2 (some .int) ∈ zwd := zmem (List.mem_append_right _ (List.mem_append_right _ (List.mem_append_left _ (List.mem_of_getElem? (i := 9) rfl)))) rfl
theorem kcX1_wrappedCell : Cond.code yX1_wrappedCell cX1_wrappedCell 2 (some .int) ∈ zwd := zmem (List.mem_append_right _ (List.mem_append_right _ (List.mem_append_left _ (List.mem_of_getElem? (i := 12) rfl)))) rfl
theorem kcJ9_floorMod_7cf53 : Cond.code yJ9_floorMod_7cf53 cJ9_floorMod_7cf53 3 (some .int) ∈ zwd := zmem (List.mem_append_right _ (List.mem_append_right _ (List.mem_append_left _ (List.mem_of_getElem? (i := 15) rfl)))) rfl
theorem kcX0_push : Cond.code yX0_push cX0_push 2 none ∈ zwd := zmem (List.mem_append_right _ (List.mem_append_right _ (List.mem_append_left _ (List.mem_of_getElem? (i := 19) rfl)))) rfl
theorem kcX1_storeCell : Cond.code yX1_storeCell cX1_storeCell 5 none ∈ zwd := zmem (List.mem_append_right _ (List.mem_append_right _ (List.mem_append_left _ (List.mem_of_getElem? (i := 23) rfl)))) rfl
theorem kcX1_addOutput : Cond.code yX1_addOutput cX1_addOutput 2 none ∈ zwd := zmem (List.mem_append_right _ (List.mem_append_right _ (List.mem_append_left _ (List.mem_of_getElem? (i := 28) rfl)))) rfl
theorem kcX1_takeInput : Cond.code yX1_takeInput cX1_takeInput 3 none ∈ zwd := zmem (List.mem_append_right _ (List.mem_append_right _ (List.mem_append_left _ (List.mem_of_getElem? (i := 32) rfl)))) rfl
theorem kcX0_turn : Cond.code yX0_turn cX0_turn 2 none ∈ zwd := zmem (List.mem_append_right _ (List.mem_append_right _ (List.mem_append_left _ (List.mem_of_getElem? (i := 36) rfl)))) rfl
theorem kcX1_split : Cond.code yX1_split cX1_split 5 none ∈ zwd := zmem (List.mem_append_right _ (List.mem_append_right _ (List.mem_append_left _ (List.mem_of_getElem? (i := 40) rfl)))) rfl
theorem kcX0_step : Cond.code yX0_step cX0_step 1 none ∈ zwd := zmem (List.mem_append_right _ (List.mem_append_right _ (List.mem_append_left _ (List.mem_of_getElem? (i := 44) rfl)))) rfl
theorem kcX0_perform : Cond.code yX0_perform cX0_perform 7 none ∈ zwd := zmem (List.mem_append_right _ (List.mem_append_right _ (List.mem_append_left _ (List.mem_of_getElem? (i := 48) rfl)))) rfl
theorem kcX0_combine : Cond.code yX0_combine cX0_combine 3 (some .int) ∈ zwd := zmem (List.mem_append_right _ (List.mem_append_right _ (List.mem_append_left _ (List.mem_of_getElem? (i := 53) rfl)))) rfl
theorem kcX0_openStack : Cond.code yX0_openStack cX0_openStack 3 none ∈ zwd := zmem (List.mem_append_right _ (List.mem_append_right _ (List.mem_append_left _ (List.mem_of_getElem? (i := 57) rfl)))) rfl
theorem kcX0_movable : Cond.code yX0_movable cX0_movable 3 (some .int) ∈ zwd := zmem (List.mem_append_right _ (List.mem_append_right _ (List.mem_append_left _ (List.mem_of_getElem? (i := 61) rfl)))) rfl
theorem kcX0_closeStack : Cond.code yX0_closeStack cX0_closeStack 4 none ∈ zwd := zmem (List.mem_append_right _ (List.mem_append_right _ (List.mem_append_left _ (List.mem_of_getElem? (i := 65) rfl)))) rfl
theorem kcJ9_min_7cf53 : Cond.code yJ9_min_7cf53 cJ9_min_7cf53 2 (some .int) ∈ zwd := zmem (List.mem_append_right _ (List.mem_append_right _ (List.mem_append_left _ (List.mem_of_getElem? (i := 69) rfl)))) rfl
theorem kcJ9_max_7cf53 : Cond.code yJ9_max_7cf53 cJ9_max_7cf53 2 (some .int) ∈ zwd := zmem (List.mem_append_right _ (List.mem_append_right _ (List.mem_append_left _ (List.mem_of_getElem? (i := 72) rfl)))) rfl
theorem kcX0_steer : Cond.code yX0_steer cX0_steer 2 none ∈ zwd := zmem (List.mem_append_right _ (List.mem_append_right _ (List.mem_append_left _ (List.mem_of_getElem? (i := 76) rfl)))) rfl
theorem kcX2_atBreakpoint : Cond.code yX2_atBreakpoint cX2_atBreakpoint 3 (some .boolean) ∈ zwd := zmem (List.mem_append_right _ (List.mem_append_right _ (List.mem_append_left _ (List.mem_of_getElem? (i := 81) rfl)))) rfl
theorem kcX2_run : Cond.code yX2_run cX2_run 2 (some .int) ∈ zwd := zmem (List.mem_append_right _ (List.mem_append_right _ (List.mem_append_left _ (List.mem_of_getElem? (i := 86) rfl)))) rfl
theorem kcX2_setBreakpoint : Cond.code yX2_setBreakpoint cX2_setBreakpoint 6 (some .int) ∈ zwd := zmem (List.mem_append_right _ (List.mem_append_right _ (List.mem_append_left _ (List.mem_of_getElem? (i := 90) rfl)))) rfl
theorem kcX2_undo : Cond.code yX2_undo cX2_undo 1 (some .int) ∈ zwd := zmem (List.mem_append_right _ (List.mem_append_right _ (List.mem_append_left _ (List.mem_of_getElem? (i := 94) rfl)))) rfl
theorem kcX2_ticksToHalt : Cond.code yX2_ticksToHalt cX2_ticksToHalt 3 (some .int) ∈ zwd := zmem (List.mem_append_right _ (List.mem_append_right _ (List.mem_append_left _ (List.mem_of_getElem? (i := 98) rfl)))) rfl
theorem kcX2_cycleStart : Cond.code yX2_cycleStart cX2_cycleStart 3 (some .int) ∈ zwd := zmem (List.mem_append_right _ (List.mem_append_right _ (List.mem_append_left _ (List.mem_of_getElem? (i := 102) rfl)))) rfl
theorem kcX2_findPeriod : Cond.code yX2_findPeriod cX2_findPeriod 3 (some .int) ∈ zwd := zmem (List.mem_append_right _ (List.mem_append_right _ (List.mem_append_left _ (List.mem_of_getElem? (i := 106) rfl)))) rfl
theorem kcX1_hasConfigurationOf : Cond.code yX1_hasConfigurationOf cX1_hasConfigurationOf 3 (some .boolean) ∈ zwd := zmem (List.mem_append_right _ (List.mem_append_right _ (List.mem_append_left _ (List.mem_of_getElem? (i := 110) rfl)))) rfl
theorem kcX0_isLike : Cond.code yX0_isLike cX0_isLike 3 (some .boolean) ∈ zwd := zmem (List.mem_append_right _ (List.mem_append_right _ (List.mem_append_left _ (List.mem_of_getElem? (i := 114) rfl)))) rfl
theorem kcX2_findCycleEntry : Cond.code yX2_findCycleEntry cX2_findCycleEntry 4 (some .int) ∈ zwd := zmem (List.mem_append_right _ (List.mem_append_right _ (List.mem_append_left _ (List.mem_of_getElem? (i := 118) rfl)))) rfl
theorem kcX2_cycleLength : Cond.code yX2_cycleLength cX2_cycleLength 3 (some .int) ∈ zwd := zmem (List.mem_append_right _ (List.mem_append_right _ (List.mem_append_left _ (List.mem_of_getElem? (i := 122) rfl)))) rfl
theorem kcX2_cellAt : Cond.code yX2_cellAt cX2_cellAt 3 (some .int) ∈ zwd := zmem (List.mem_append_right _ (List.mem_append_right _ (List.mem_append_left _ (List.mem_of_getElem? (i := 126) rfl)))) rfl
theorem kcX2_changedCells : Cond.code yX2_changedCells cX2_changedCells 3 (some .int) ∈ zwd := zmem (List.mem_append_right _ (List.mem_append_right _ (List.mem_append_left _ (List.mem_of_getElem? (i := 130) rfl)))) rfl
theorem kcX2_pointerCount : Cond.code yX2_pointerCount cX2_pointerCount 1 (some .int) ∈ zwd := zmem (List.mem_append_right _ (List.mem_append_right _ (List.mem_append_left _ (List.mem_of_getElem? (i := 134) rfl)))) rfl
theorem kcX2_pointerAt : Cond.code yX2_pointerAt cX2_pointerAt 2 (some .int) ∈ zwd := zmem (List.mem_append_right _ (List.mem_append_right _ (List.mem_append_left _ (List.mem_of_getElem? (i := 138) rfl)))) rfl
theorem kcX2_isPointer : Cond.code yX2_isPointer cX2_isPointer 2 (some .boolean) ∈ zwd := zmem (List.mem_append_right _ (List.mem_append_right _ (List.mem_append_left _ (List.mem_of_getElem? (i := 142) rfl)))) rfl
theorem kcX2_position : Cond.code yX2_position cX2_position 2 (some .int) ∈ zwd := zmem (List.mem_append_right _ (List.mem_append_right _ (List.mem_append_left _ (List.mem_of_getElem? (i := 146) rfl)))) rfl
theorem kcX2_direction : Cond.code yX2_direction cX2_direction 2 (some .int) ∈ zwd := zmem (List.mem_append_right _ (List.mem_append_right _ (List.mem_append_left _ (List.mem_of_getElem? (i := 150) rfl)))) rfl
theorem kcX2_status : Cond.code yX2_status cX2_status 2 (some .int) ∈ zwd := zmem (List.mem_append_right _ (List.mem_append_right _ (List.mem_append_left _ (List.mem_of_getElem? (i := 154) rfl)))) rfl
theorem kcX2_sleep : Cond.code yX2_sleep cX2_sleep 2 (some .int) ∈ zwd := zmem (List.mem_append_right _ (List.mem_append_right _ (List.mem_append_left _ (List.mem_of_getElem? (i := 158) rfl)))) rfl
theorem kcX2_stackCount : Cond.code yX2_stackCount cX2_stackCount 2 (some .int) ∈ zwd := zmem (List.mem_append_right _ (List.mem_append_right _ (List.mem_append_left _ (List.mem_of_getElem? (i := 162) rfl)))) rfl
theorem kcX2_stackSize : Cond.code yX2_stackSize cX2_stackSize 3 (some .int) ∈ zwd := zmem (List.mem_append_right _ (List.mem_append_right _ (List.mem_append_left _ (List.mem_of_getElem? (i := 166) rfl)))) rfl
theorem kcX2_isStack : Cond.code yX2_isStack cX2_isStack 3 (some .boolean) ∈ zwd := zmem (List.mem_append_right _ (List.mem_append_right _ (List.mem_append_left _ (List.mem_of_getElem? (i := 170) rfl)))) rfl
theorem kcX2_valueAt : Cond.code yX2_valueAt cX2_valueAt 5 (some .int) ∈ zwd := zmem (List.mem_append_right _ (List.mem_append_right _ (List.mem_append_left _ (List.mem_of_getElem? (i := 174) rfl)))) rfl
theorem kcX0_stackBegin : Cond.code yX0_stackBegin cX0_stackBegin 4 (some .int) ∈ zwd := zmem (List.mem_append_right _ (List.mem_append_right _ (List.mem_append_left _ (List.mem_of_getElem? (i := 178) rfl)))) rfl
theorem kcX2_inputSize : Cond.code yX2_inputSize cX2_inputSize 1 (some .int) ∈ zwd := zmem (List.mem_append_right _ (List.mem_append_right _ (List.mem_append_left _ (List.mem_of_getElem? (i := 182) rfl)))) rfl
theorem kcX2_outputSize : Cond.code yX2_outputSize cX2_outputSize 1 (some .int) ∈ zwd := zmem (List.mem_append_right _ (List.mem_append_right _ (List.mem_append_left _ (List.mem_of_getElem? (i := 186) rfl)))) rfl
theorem kcX2_outputAt : Cond.code yX2_outputAt cX2_outputAt 2 (some .int) ∈ zwd := zmem (List.mem_append_right _ (List.mem_append_right _ (List.mem_append_left _ (List.mem_of_getElem? (i := 190) rfl)))) rfl
theorem kcX2_outputTotal : Cond.code yX2_outputTotal cX2_outputTotal 1 (some .int) ∈ zwd := zmem (List.mem_append_right _ (List.mem_append_right _ (List.mem_append_left _ (List.mem_of_getElem? (i := 194) rfl)))) rfl
theorem kcX2_tickCount : Cond.code yX2_tickCount cX2_tickCount 1 (some .int) ∈ zwd := zmem (List.mem_append_right _ (List.mem_append_right _ (List.mem_append_left _ (List.mem_of_getElem? (i := 198) rfl)))) rfl
theorem kcX2_save : Cond.code yX2_save cX2_save 2 (some .int) ∈ zwd := zmem (List.mem_append_right _ (List.mem_append_right _ (List.mem_append_left _ (List.mem_of_getElem? (i := 202) rfl)))) rfl
theorem kcX2_restore : Cond.code yX2_restore cX2_restore 2 (some .int) ∈ zwd := zmem (List.mem_append_right _ (List.mem_append_right _ (List.mem_append_left _ (List.mem_of_getElem? (i := 206) rfl)))) rfl
theorem kcX2_undoDepth : Cond.code yX2_undoDepth cX2_undoDepth 1 (some .int) ∈ zwd := zmem (List.mem_append_right _ (List.mem_append_right _ (List.mem_append_left _ (List.mem_of_getElem? (i := 210) rfl)))) rfl
theorem kcX3_init : Cond.code yX3_init cX3_init 2 none ∈ zwd := zmem (List.mem_append_right _ (List.mem_append_right _ (List.mem_append_left _ (List.mem_of_getElem? (i := 215) rfl)))) rfl
theorem kcX3_begin : Cond.code yX3_begin cX3_begin 2 none ∈ zwd := zmem (List.mem_append_right _ (List.mem_append_right _ (List.mem_append_left _ (List.mem_of_getElem? (i := 220) rfl)))) rfl
theorem kcX3_undo : Cond.code yX3_undo cX3_undo 2 (some .int) ∈ zwd := zmem (List.mem_append_right _ (List.mem_append_right _ (List.mem_append_right _ (List.mem_append_left _ (List.mem_of_getElem? (i := 27) rfl))))) rfl
theorem kcX3_append : Cond.code yX3_append cX3_append 2 (some .int) ∈ zwd := zmem (List.mem_append_right _ (List.mem_append_right _ (List.mem_append_right _ (List.mem_append_left _ (List.mem_of_getElem? (i := 31) rfl))))) rfl
theorem kcX3_in : Cond.code yX3_in cX3_in 3 (some .boolean) ∈ zwd := zmem (List.mem_append_right _ (List.mem_append_right _ (List.mem_append_right _ (List.mem_append_left _ (List.mem_of_getElem? (i := 34) rfl))))) rfl
theorem kcX3_clearText : Cond.code yX3_clearText cX3_clearText 2 (some .int) ∈ zwd := zmem (List.mem_append_right _ (List.mem_append_right _ (List.mem_append_right _ (List.mem_append_left _ (List.mem_of_getElem? (i := 38) rfl))))) rfl
theorem kcX3_load : Cond.code yX3_load cX3_load 6 (some .int) ∈ zwd := zmem (List.mem_append_right _ (List.mem_append_right _ (List.mem_append_right _ (List.mem_append_left _ (List.mem_of_getElem? (i := 42) rfl))))) rfl
theorem kcX3_errorPosition : Cond.code yX3_errorPosition cX3_errorPosition 6 (some .int) ∈ zwd := zmem (List.mem_append_right _ (List.mem_append_right _ (List.mem_append_right _ (List.mem_append_left _ (List.mem_of_getElem? (i := 46) rfl))))) rfl
theorem kcX3_remember : Cond.code yX3_remember cX3_remember 2 none ∈ zwd := zmem (List.mem_append_right _ (List.mem_append_right _ (List.mem_append_right _ (List.mem_append_left _ (List.mem_of_getElem? (i := 50) rfl))))) rfl
theorem kcX3_saveBefore : Cond.code yX3_saveBefore cX3_saveBefore 2 none ∈ zwd := zmem (List.mem_append_right _ (List.mem_append_right _ (List.mem_append_right _ (List.mem_append_left _ (List.mem_of_getElem? (i := 54) rfl))))) rfl
theorem kcX3_rewind : Cond.code yX3_rewind cX3_rewind 2 (some .int) ∈ zwd := zmem (List.mem_append_right _ (List.mem_append_right _ (List.mem_append_right _ (List.mem_append_left _ (List.mem_of_getElem? (i := 58) rfl))))) rfl
theorem kcX3_feed : Cond.code yX3_feed cX3_feed 2 (some .int) ∈ zwd := zmem (List.mem_append_right _ (List.mem_append_right _ (List.mem_append_right _ (List.mem_append_left _ (List.mem_of_getElem? (i := 62) rfl))))) rfl
theorem kcX3_poke : Cond.code yX3_poke cX3_poke 6 (some .int) ∈ zwd := zmem (List.mem_append_right _ (List.mem_append_right _ (List.mem_append_right _ (List.mem_append_left _ (List.mem_of_getElem? (i := 66) rfl))))) rfl
theorem kcX3_isCell : Cond.code yX3_isCell cX3_isCell 2 (some .boolean) ∈ zwd := zmem (List.mem_append_right _ (List.mem_append_right _ (List.mem_append_right _ (List.mem_append_left _ (List.mem_of_getElem? (i := 69) rfl))))) rfl
theorem kcX3_tick : Cond.code yX3_tick cX3_tick 2 (some .int) ∈ zwd := zmem (List.mem_append_right _ (List.mem_append_right _ (List.mem_append_right _ (List.mem_append_left _ (List.mem_of_getElem? (i := 73) rfl))))) rfl
theorem kcX3_perform : Cond.code yX3_perform cX3_perform 5 (some .int) ∈ zwd := zmem (List.mem_append_right _ (List.mem_append_right _ (List.mem_append_right _ (List.mem_append_left _ (List.mem_of_getElem? (i := 77) rfl))))) rfl
theorem kcX3_isHalted : Cond.code yX3_isHalted cX3_isHalted 3 (some .boolean) ∈ zwd := zmem (List.mem_append_right _ (List.mem_append_right _ (List.mem_append_right _ (List.mem_append_left _ (List.mem_of_getElem? (i := 81) rfl))))) rfl
theorem kcX3_of : Cond.code yX3_of cX3_of 3 (some .int) ∈ zwd := zmem (List.mem_append_right _ (List.mem_append_right _ (List.mem_append_right _ (List.mem_append_left _ (List.mem_of_getElem? (i := 85) rfl))))) rfl
theorem kcX3_step : Cond.code yX3_step cX3_step 3 none ∈ zwd := zmem (List.mem_append_right _ (List.mem_append_right _ (List.mem_append_right _ (List.mem_append_left _ (List.mem_of_getElem? (i := 89) rfl))))) rfl
theorem kcX3_takeTurn : Cond.code yX3_takeTurn cX3_takeTurn 2 none ∈ zwd := zmem (List.mem_append_right _ (List.mem_append_right _ (List.mem_append_right _ (List.mem_append_left _ (List.mem_of_getElem? (i := 93) rfl))))) rfl
theorem kcX3_put : Cond.code yX3_put cX3_put 4 none ∈ zwd := zmem (List.mem_append_right _ (List.mem_append_right _ (List.mem_append_right _ (List.mem_append_left _ (List.mem_of_getElem? (i := 97) rfl))))) rfl
theorem kcX3_execute : Cond.code yX3_execute cX3_execute 5 none ∈ zwd := zmem (List.mem_append_right _ (List.mem_append_right _ (List.mem_append_right _ (List.mem_append_left _ (List.mem_of_getElem? (i := 101) rfl))))) rfl
theorem kcX3_push : Cond.code yX3_push cX3_push 4 none ∈ zwd := zmem (List.mem_append_right _ (List.mem_append_right _ (List.mem_append_right _ (List.mem_append_left _ (List.mem_of_getElem? (i := 105) rfl))))) rfl
theorem kcX3_heldBy : Cond.code yX3_heldBy cX3_heldBy 2 (some .int) ∈ zwd := zmem (List.mem_append_right _ (List.mem_append_right _ (List.mem_append_right _ (List.mem_append_left _ (List.mem_of_getElem? (i := 109) rfl))))) rfl
theorem kcX3_current : Cond.code yX3_current cX3_current 2 (some .int) ∈ zwd := zmem (List.mem_append_right _ (List.mem_append_right _ (List.mem_append_right _ (List.mem_append_left _ (List.mem_of_getElem? (i := 113) rfl))))) rfl
theorem kcX3_pop : Cond.code yX3_pop cX3_pop 5 (some .int) ∈ zwd := zmem (List.mem_append_right _ (List.mem_append_right _ (List.mem_append_right _ (List.mem_append_left _ (List.mem_of_getElem? (i := 117) rfl))))) rfl
theorem kcX3_operate : Cond.code yX3_operate cX3_operate 3 (some .int) ∈ zwd := zmem (List.mem_append_right _ (List.mem_append_right _ (List.mem_append_right _ (List.mem_append_left _ (List.mem_of_getElem? (i := 120) rfl))))) rfl
theorem kcX3_duplicate : Cond.code yX3_duplicate cX3_duplicate 3 none ∈ zwd := zmem (List.mem_append_right _ (List.mem_append_right _ (List.mem_append_right _ (List.mem_append_left _ (List.mem_of_getElem? (i := 124) rfl))))) rfl
theorem kcX3_swapTop : Cond.code yX3_swapTop cX3_swapTop 4 none ∈ zwd := zmem (List.mem_append_right _ (List.mem_append_right _ (List.mem_append_right _ (List.mem_append_left _ (List.mem_of_getElem? (i := 128) rfl))))) rfl
theorem kcX3_turn : Cond.code yX3_turn cX3_turn 3 none ∈ zwd := zmem (List.mem_append_right _ (List.mem_append_right _ (List.mem_append_right _ (List.mem_append_left _ (List.mem_of_getElem? (i := 132) rfl))))) rfl
theorem kcX3_move : Cond.code yX3_move cX3_move 5 none ∈ zwd := zmem (List.mem_append_right _ (List.mem_append_right _ (List.mem_append_right _ (List.mem_append_left _ (List.mem_of_getElem? (i := 136) rfl))))) rfl
theorem kcX3_fetch : Cond.code yX3_fetch cX3_fetch 4 none ∈ zwd := zmem (List.mem_append_right _ (List.mem_append_right _ (List.mem_append_right _ (List.mem_append_left _ (List.mem_of_getElem? (i := 140) rfl))))) rfl
theorem kcX3_cell : Cond.code yX3_cell cX3_cell 2 (some .int) ∈ zwd := zmem (List.mem_append_right _ (List.mem_append_right _ (List.mem_append_right _ (List.mem_append_left _ (List.mem_of_getElem? (i := 143) rfl))))) rfl
theorem kcX3_modulo : Cond.code yX3_modulo cX3_modulo 3 (some .int) ∈ zwd := zmem (List.mem_append_right _ (List.mem_append_right _ (List.mem_append_right _ (List.mem_append_left _ (List.mem_of_getElem? (i := 146) rfl))))) rfl
theorem kcX3_store : Cond.code yX3_store cX3_store 5 none ∈ zwd := zmem (List.mem_append_right _ (List.mem_append_right _ (List.mem_append_right _ (List.mem_append_left _ (List.mem_of_getElem? (i := 150) rfl))))) rfl
theorem kcX3_output : Cond.code yX3_output cX3_output 3 none ∈ zwd := zmem (List.mem_append_right _ (List.mem_append_right _ (List.mem_append_right _ (List.mem_append_left _ (List.mem_of_getElem? (i := 154) rfl))))) rfl
theorem kcX3_input : Cond.code yX3_input cX3_input 4 none ∈ zwd := zmem (List.mem_append_right _ (List.mem_append_right _ (List.mem_append_right _ (List.mem_append_left _ (List.mem_of_getElem? (i := 158) rfl))))) rfl
theorem kcX3_clamp : Cond.code yX3_clamp cX3_clamp 2 (some .int) ∈ zwd := zmem (List.mem_append_right _ (List.mem_append_right _ (List.mem_append_right _ (List.mem_append_left _ (List.mem_of_getElem? (i := 161) rfl))))) rfl
theorem kcX3_split : Cond.code yX3_split cX3_split 4 none ∈ zwd := zmem (List.mem_append_right _ (List.mem_append_right _ (List.mem_append_right _ (List.mem_append_left _ (List.mem_of_getElem? (i := 165) rfl))))) rfl
theorem kcX3_openStack : Cond.code yX3_openStack cX3_openStack 5 none ∈ zwd := zmem (List.mem_append_right _ (List.mem_append_right _ (List.mem_append_right _ (List.mem_append_left _ (List.mem_of_getElem? (i := 169) rfl))))) rfl
theorem kcX3_closeStack : Cond.code yX3_closeStack cX3_closeStack 8 none ∈ zwd := zmem (List.mem_append_right _ (List.mem_append_right _ (List.mem_append_right _ (List.mem_append_left _ (List.mem_of_getElem? (i := 173) rfl))))) rfl
theorem kcX3_isAtBreakpoint : Cond.code yX3_isAtBreakpoint cX3_isAtBreakpoint 3 (some .boolean) ∈ zwd := zmem (List.mem_append_right _ (List.mem_append_right _ (List.mem_append_right _ (List.mem_append_left _ (List.mem_of_getElem? (i := 177) rfl))))) rfl
theorem kcX3_run : Cond.code yX3_run cX3_run 2 (some .int) ∈ zwd := zmem (List.mem_append_right _ (List.mem_append_right _ (List.mem_append_right _ (List.mem_append_left _ (List.mem_of_getElem? (i := 181) rfl))))) rfl
theorem kcX3_setBreakpoint : Cond.code yX3_setBreakpoint cX3_setBreakpoint 5 (some .int) ∈ zwd := zmem (List.mem_append_right _ (List.mem_append_right _ (List.mem_append_right _ (List.mem_append_left _ (List.mem_of_getElem? (i := 185) rfl))))) rfl
theorem kcX3_breakpoints : Cond.code yX3_breakpoints cX3_breakpoints 3 (some .int) ∈ zwd := zmem (List.mem_append_right _ (List.mem_append_right _ (List.mem_append_right _ (List.mem_append_left _ (List.mem_of_getElem? (i := 189) rfl))))) rfl
theorem kcX3_ticksToHalt : Cond.code yX3_ticksToHalt cX3_ticksToHalt 2 (some .int) ∈ zwd := zmem (List.mem_append_right _ (List.mem_append_right _ (List.mem_append_right _ (List.mem_append_left _ (List.mem_of_getElem? (i := 193) rfl))))) rfl
theorem kcX3_halts : Cond.code yX3_halts cX3_halts 4 (some .int) ∈ zwd := zmem (List.mem_append_right _ (List.mem_append_right _ (List.mem_append_right _ (List.mem_append_left _ (List.mem_of_getElem? (i := 197) rfl))))) rfl
theorem kcX3_setAside : Cond.code yX3_setAside cX3_setAside 2 none ∈ zwd := zmem (List.mem_append_right _ (List.mem_append_right _ (List.mem_append_right _ (List.mem_append_left _ (List.mem_of_getElem? (i := 201) rfl))))) rfl
theorem kcX3_takeBack : Cond.code yX3_takeBack cX3_takeBack 2 none ∈ zwd := zmem (List.mem_append_right _ (List.mem_append_right _ (List.mem_append_right _ (List.mem_append_left _ (List.mem_of_getElem? (i := 205) rfl))))) rfl
theorem kcX3_cycleStart : Cond.code yX3_cycleStart cX3_cycleStart 2 (some .int) ∈ zwd := zmem (List.mem_append_right _ (List.mem_append_right _ (List.mem_append_right _ (List.mem_append_left _ (List.mem_of_getElem? (i := 209) rfl))))) rfl
theorem kcX3_findCycle : Cond.code yX3_findCycle cX3_findCycle 4 none ∈ zwd := zmem (List.mem_append_right _ (List.mem_append_right _ (List.mem_append_right _ (List.mem_append_left _ (List.mem_of_getElem? (i := 213) rfl))))) rfl
theorem kcX3_isSameAsFirst : Cond.code yX3_isSameAsFirst cX3_isSameAsFirst 3 (some .boolean) ∈ zwd := zmem (List.mem_append_right _ (List.mem_append_right _ (List.mem_append_right _ (List.mem_append_left _ (List.mem_of_getElem? (i := 217) rfl))))) rfl
theorem kcX3_cycleLength : Cond.code yX3_cycleLength cX3_cycleLength 2 (some .int) ∈ zwd := zmem (List.mem_append_right _ (List.mem_append_right _ (List.mem_append_right _ (List.mem_append_left _ (List.mem_of_getElem? (i := 221) rfl))))) rfl
theorem kcX3_cellAt : Cond.code yX3_cellAt cX3_cellAt 3 (some .int) ∈ zwd := zmem (List.mem_append_right _ (List.mem_append_right _ (List.mem_append_right _ (List.mem_append_left _ (List.mem_of_getElem? (i := 225) rfl))))) rfl
theorem kcX3_changedCells : Cond.code yX3_changedCells cX3_changedCells 3 (some .int) ∈ zwd := zmem (List.mem_append_right _ (List.mem_append_right _ (List.mem_append_right _ (List.mem_append_left _ (List.mem_of_getElem? (i := 229) rfl))))) rfl
theorem kcX3_pointerCount : Cond.code yX3_pointerCount cX3_pointerCount 1 (some .int) ∈ zwd := zmem (List.mem_append_right _ (List.mem_append_right _ (List.mem_append_right _ (List.mem_append_left _ (List.mem_of_getElem? (i := 233) rfl))))) rfl
theorem kcX3_pointerAt : Cond.code yX3_pointerAt cX3_pointerAt 2 (some .int) ∈ zwd := zmem (List.mem_append_right _ (List.mem_append_right _ (List.mem_append_right _ (List.mem_append_left _ (List.mem_of_getElem? (i := 237) rfl))))) rfl
theorem kcX3_isPointer : Cond.code yX3_isPointer cX3_isPointer 2 (some .boolean) ∈ zwd := zmem (List.mem_append_right _ (List.mem_append_right _ (List.mem_append_right _ (List.mem_append_right _ (List.mem_of_getElem? (i := 1) rfl))))) rfl
theorem kcX3_position : Cond.code yX3_position cX3_position 2 (some .int) ∈ zwd := zmem (List.mem_append_right _ (List.mem_append_right _ (List.mem_append_right _ (List.mem_append_right _ (List.mem_of_getElem? (i := 5) rfl))))) rfl
theorem kcX3_direction : Cond.code yX3_direction cX3_direction 2 (some .int) ∈ zwd := zmem (List.mem_append_right _ (List.mem_append_right _ (List.mem_append_right _ (List.mem_append_right _ (List.mem_of_getElem? (i := 9) rfl))))) rfl
theorem kcX3_status : Cond.code yX3_status cX3_status 2 (some .int) ∈ zwd := zmem (List.mem_append_right _ (List.mem_append_right _ (List.mem_append_right _ (List.mem_append_right _ (List.mem_of_getElem? (i := 13) rfl))))) rfl
theorem kcX3_sleep : Cond.code yX3_sleep cX3_sleep 2 (some .int) ∈ zwd := zmem (List.mem_append_right _ (List.mem_append_right _ (List.mem_append_right _ (List.mem_append_right _ (List.mem_of_getElem? (i := 17) rfl))))) rfl
theorem kcX3_stackCount : Cond.code yX3_stackCount cX3_stackCount 2 (some .int) ∈ zwd := zmem (List.mem_append_right _ (List.mem_append_right _ (List.mem_append_right _ (List.mem_append_right _ (List.mem_of_getElem? (i := 21) rfl))))) rfl
theorem kcX3_stackSize : Cond.code yX3_stackSize cX3_stackSize 3 (some .int) ∈ zwd := zmem (List.mem_append_right _ (List.mem_append_right _ (List.mem_append_right _ (List.mem_append_right _ (List.mem_of_getElem? (i := 25) rfl))))) rfl
theorem kcX3_isStack : Cond.code yX3_isStack cX3_isStack 3 (some .boolean) ∈ zwd := zmem (List.mem_append_right _ (List.mem_append_right _ (List.mem_append_right _ (List.mem_append_right _ (List.mem_of_getElem? (i := 29) rfl))))) rfl
theorem kcX3_valueAt : Cond.code yX3_valueAt cX3_valueAt 6 (some .int) ∈ zwd := zmem (List.mem_append_right _ (List.mem_append_right _ (List.mem_append_right _ (List.mem_append_right _ (List.mem_of_getElem? (i := 33) rfl))))) rfl
theorem kcX3_inputSize : Cond.code yX3_inputSize cX3_inputSize 1 (some .int) ∈ zwd := zmem (List.mem_append_right _ (List.mem_append_right _ (List.mem_append_right _ (List.mem_append_right _ (List.mem_of_getElem? (i := 37) rfl))))) rfl
theorem kcX3_outputSize : Cond.code yX3_outputSize cX3_outputSize 1 (some .int) ∈ zwd := zmem (List.mem_append_right _ (List.mem_append_right _ (List.mem_append_right _ (List.mem_append_right _ (List.mem_of_getElem? (i := 41) rfl))))) rfl
theorem kcX3_outputAt : Cond.code yX3_outputAt cX3_outputAt 2 (some .int) ∈ zwd := zmem (List.mem_append_right _ (List.mem_append_right _ (List.mem_append_right _ (List.mem_append_right _ (List.mem_of_getElem? (i := 45) rfl))))) rfl
theorem kcX3_outputTotal : Cond.code yX3_outputTotal cX3_outputTotal 1 (some .int) ∈ zwd := zmem (List.mem_append_right _ (List.mem_append_right _ (List.mem_append_right _ (List.mem_append_right _ (List.mem_of_getElem? (i := 49) rfl))))) rfl
theorem kcX3_tickCount : Cond.code yX3_tickCount cX3_tickCount 1 (some .int) ∈ zwd := zmem (List.mem_append_right _ (List.mem_append_right _ (List.mem_append_right _ (List.mem_append_right _ (List.mem_of_getElem? (i := 53) rfl))))) rfl
theorem kcX3_save : Cond.code yX3_save cX3_save 3 (some .int) ∈ zwd := zmem (List.mem_append_right _ (List.mem_append_right _ (List.mem_append_right _ (List.mem_append_right _ (List.mem_of_getElem? (i := 57) rfl))))) rfl
theorem kcX3_restore : Cond.code yX3_restore cX3_restore 3 (some .int) ∈ zwd := zmem (List.mem_append_right _ (List.mem_append_right _ (List.mem_append_right _ (List.mem_append_right _ (List.mem_of_getElem? (i := 61) rfl))))) rfl
theorem kcX3_undoDepth : Cond.code yX3_undoDepth cX3_undoDepth 1 (some .int) ∈ zwd := zmem (List.mem_append_right _ (List.mem_append_right _ (List.mem_append_right _ (List.mem_append_right _ (List.mem_of_getElem? (i := 65) rfl))))) rfl
theorem kiL : Cond.initialized RL ∈ zwd := zmem (List.mem_append_right _ (List.mem_append_left _ (List.mem_of_getElem? (i := 0) rfl))) rfl
theorem kiX2 : Cond.initialized RX2 ∈ zwd := zmem (List.mem_append_right _ (List.mem_append_left _ (List.mem_of_getElem? (i := 1) rfl))) rfl
theorem kiX1 : Cond.initialized RX1 ∈ zwd := zmem (List.mem_append_right _ (List.mem_append_left _ (List.mem_of_getElem? (i := 2) rfl))) rfl
theorem kiX0 : Cond.initialized RX0 ∈ zwd := zmem (List.mem_append_right _ (List.mem_append_left _ (List.mem_of_getElem? (i := 3) rfl))) rfl
theorem kiX3 : Cond.initialized RX3 ∈ zwd := zmem (List.mem_append_right _ (List.mem_append_left _ (List.mem_of_getElem? (i := 4) rfl))) rfl
theorem kiJ10 : Cond.initialized RJ10 ∈ zwd := zmem (List.mem_append_right _ (List.mem_append_left _ (List.mem_of_getElem? (i := 5) rfl))) rfl
theorem kiJ9 : Cond.initialized RJ9 ∈ zwd := zmem (List.mem_append_right _ (List.mem_append_left _ (List.mem_of_getElem? (i := 6) rfl))) rfl
theorem knX2_init : Cond.instanceMethod yX2_init ∈ zwd := zmem (List.mem_append_right _ (List.mem_append_left _ (List.mem_of_getElem? (i := 10) rfl))) rfl
theorem knX1_init : Cond.instanceMethod yX1_init ∈ zwd := zmem (List.mem_append_right _ (List.mem_append_left _ (List.mem_of_getElem? (i := 18) rfl))) rfl
theorem knX0_init : Cond.instanceMethod yX0_init ∈ zwd := zmem (List.mem_append_right _ (List.mem_append_left _ (List.mem_of_getElem? (i := 25) rfl))) rfl
theorem knX2_append : Cond.instanceMethod yX2_append ∈ zwd := zmem (List.mem_append_right _ (List.mem_append_left _ (List.mem_of_getElem? (i := 146) rfl))) rfl
theorem ksX2_append : Cond.selects RX2 yX2_append yX2_append ∈ zwd := zmem (List.mem_append_right _ (List.mem_append_left _ (List.mem_of_getElem? (i := 147) rfl))) rfl
theorem knX2_clearText : Cond.instanceMethod yX2_clearText ∈ zwd := zmem (List.mem_append_right _ (List.mem_append_left _ (List.mem_of_getElem? (i := 150) rfl))) rfl
theorem ksX2_clearText : Cond.selects RX2 yX2_clearText yX2_clearText ∈ zwd := zmem (List.mem_append_right _ (List.mem_append_left _ (List.mem_of_getElem? (i := 151) rfl))) rfl
theorem knX2_load : Cond.instanceMethod yX2_load ∈ zwd := zmem (List.mem_append_right _ (List.mem_append_left _ (List.mem_of_getElem? (i := 154) rfl))) rfl
theorem ksX2_load : Cond.selects RX2 yX2_load yX2_load ∈ zwd := zmem (List.mem_append_right _ (List.mem_append_left _ (List.mem_of_getElem? (i := 155) rfl))) rfl
theorem knX2_errorPosition : Cond.instanceMethod yX2_errorPosition ∈ zwd := zmem (List.mem_append_right _ (List.mem_append_left _ (List.mem_of_getElem? (i := 159) rfl))) rfl
theorem ksX2_errorPosition : Cond.selects RX2 yX2_errorPosition yX2_errorPosition ∈ zwd := zmem (List.mem_append_left _ (List.mem_of_getElem? (i := 0) rfl)) rfl
theorem ktX2_isCode : Cond.static yX2_isCode ∈ zwd := zmem (List.mem_append_right _ (List.mem_append_left _ (List.mem_of_getElem? (i := 162) rfl))) rfl
theorem knX2_keepForUndo : Cond.instanceMethod yX2_keepForUndo ∈ zwd := zmem (List.mem_append_right _ (List.mem_append_left _ (List.mem_of_getElem? (i := 166) rfl))) rfl
theorem ksX2_keepForUndo : Cond.selects RX2 yX2_keepForUndo yX2_keepForUndo ∈ zwd := zmem (List.mem_append_left _ (List.mem_of_getElem? (i := 1) rfl)) rfl
theorem knX1_copyFrom : Cond.instanceMethod yX1_copyFrom ∈ zwd := zmem (List.mem_append_right _ (List.mem_append_left _ (List.mem_of_getElem? (i := 169) rfl))) rfl
theorem ksX1_copyFrom : Cond.selects RX1 yX1_copyFrom yX1_copyFrom ∈ zwd := zmem (List.mem_append_right _ (List.mem_append_left _ (List.mem_of_getElem? (i := 170) rfl))) rfl
theorem knX0_copyFrom : Cond.instanceMethod yX0_copyFrom ∈ zwd := zmem (List.mem_append_right _ (List.mem_append_left _ (List.mem_of_getElem? (i := 176) rfl))) rfl
theorem ksX0_copyFrom : Cond.selects RX0 yX0_copyFrom yX0_copyFrom ∈ zwd := zmem (List.mem_append_right _ (List.mem_append_left _ (List.mem_of_getElem? (i := 177) rfl))) rfl
theorem knX2_readProgram : Cond.instanceMethod yX2_readProgram ∈ zwd := zmem (List.mem_append_right _ (List.mem_append_left _ (List.mem_of_getElem? (i := 182) rfl))) rfl
theorem ksX2_readProgram : Cond.selects RX2 yX2_readProgram yX2_readProgram ∈ zwd := zmem (List.mem_append_left _ (List.mem_of_getElem? (i := 2) rfl)) rfl
theorem ktX2_isCell : Cond.static yX2_isCell ∈ zwd := zmem (List.mem_append_right _ (List.mem_append_left _ (List.mem_of_getElem? (i := 185) rfl))) rfl
theorem knX1_beginRun : Cond.instanceMethod yX1_beginRun ∈ zwd := zmem (List.mem_append_right _ (List.mem_append_left _ (List.mem_of_getElem? (i := 188) rfl))) rfl
theorem ksX1_beginRun : Cond.selects RX1 yX1_beginRun yX1_beginRun ∈ zwd := zmem (List.mem_append_right _ (List.mem_append_left _ (List.mem_of_getElem? (i := 189) rfl))) rfl
theorem knX0_reset : Cond.instanceMethod yX0_reset ∈ zwd := zmem (List.mem_append_right _ (List.mem_append_left _ (List.mem_of_getElem? (i := 192) rfl))) rfl
theorem ksX0_reset : Cond.selects RX0 yX0_reset yX0_reset ∈ zwd := zmem (List.mem_append_right _ (List.mem_append_left _ (List.mem_of_getElem? (i := 193) rfl))) rfl
theorem knX1_countFilledCells : Cond.instanceMethod yX1_countFilledCells ∈ zwd := zmem (List.mem_append_right _ (List.mem_append_left _ (List.mem_of_getElem? (i := 196) rfl))) rfl
theorem ksX1_countFilledCells : Cond.selects RX1 yX1_countFilledCells yX1_countFilledCells ∈ zwd := zmem (List.mem_append_right _ (List.mem_append_left _ (List.mem_of_getElem? (i := 197) rfl))) rfl
theorem knX2_rewind : Cond.instanceMethod yX2_rewind ∈ zwd := zmem (List.mem_append_right _ (List.mem_append_left _ (List.mem_of_getElem? (i := 200) rfl))) rfl
theorem ksX2_rewind : Cond.selects RX2 yX2_rewind yX2_rewind ∈ zwd := zmem (List.mem_append_right _ (List.mem_append_left _ (List.mem_of_getElem? (i := 201) rfl))) rfl
theorem knX2_feed : Cond.instanceMethod yX2_feed ∈ zwd := zmem (List.mem_append_right _ (List.mem_append_left _ (List.mem_of_getElem? (i := 204) rfl))) rfl
theorem ksX2_feed : Cond.selects RX2 yX2_feed yX2_feed ∈ zwd := zmem (List.mem_append_right _ (List.mem_append_left _ (List.mem_of_getElem? (i := 205) rfl))) rfl
theorem knX1_addInput : Cond.instanceMethod yX1_addInput ∈ zwd := zmem (List.mem_append_right _ (List.mem_append_left _ (List.mem_of_getElem? (i := 208) rfl))) rfl
theorem ksX1_addInput : Cond.selects RX1 yX1_addInput yX1_addInput ∈ zwd := zmem (List.mem_append_right _ (List.mem_append_left _ (List.mem_of_getElem? (i := 209) rfl))) rfl
theorem knX2_poke : Cond.instanceMethod yX2_poke ∈ zwd := zmem (List.mem_append_right _ (List.mem_append_left _ (List.mem_of_getElem? (i := 212) rfl))) rfl
theorem ksX2_poke : Cond.selects RX2 yX2_poke yX2_poke ∈ zwd := zmem (List.mem_append_right _ (List.mem_append_left _ (List.mem_of_getElem? (i := 213) rfl))) rfl
theorem knX2_tick : Cond.instanceMethod yX2_tick ∈ zwd := zmem (List.mem_append_right _ (List.mem_append_left _ (List.mem_of_getElem? (i := 216) rfl))) rfl
theorem ksX2_tick : Cond.selects RX2 yX2_tick yX2_tick ∈ zwd := zmem (List.mem_append_right _ (List.mem_append_left _ (List.mem_of_getElem? (i := 217) rfl))) rfl
theorem knX2_advance : Cond.instanceMethod yX2_advance ∈ zwd := zmem (List.mem_append_right _ (List.mem_append_left _ (List.mem_of_getElem? (i := 221) rfl))) rfl
theorem ksX2_advance : Cond.selects RX2 yX2_advance yX2_advance ∈ zwd := zmem (List.mem_append_left _ (List.mem_of_getElem? (i := 3) rfl)) rfl
theorem ktX2_isTickLimit : Cond.static yX2_isTickLimit ∈ zwd := zmem (List.mem_append_right _ (List.mem_append_left _ (List.mem_of_getElem? (i := 224) rfl))) rfl
theorem knX1_isHalted : Cond.instanceMethod yX1_isHalted ∈ zwd := zmem (List.mem_append_right _ (List.mem_append_left _ (List.mem_of_getElem? (i := 227) rfl))) rfl
theorem ksX1_isHalted : Cond.selects RX1 yX1_isHalted yX1_isHalted ∈ zwd := zmem (List.mem_append_right _ (List.mem_append_left _ (List.mem_of_getElem? (i := 228) rfl))) rfl
theorem knX1_performTick : Cond.instanceMethod yX1_performTick ∈ zwd := zmem (List.mem_append_right _ (List.mem_append_left _ (List.mem_of_getElem? (i := 231) rfl))) rfl
theorem ksX1_performTick : Cond.selects RX1 yX1_performTick yX1_performTick ∈ zwd := zmem (List.mem_append_right _ (List.mem_append_left _ (List.mem_of_getElem? (i := 232) rfl))) rfl
theorem knX1_takeTurn : Cond.instanceMethod yX1_takeTurn ∈ zwd := zmem (List.mem_append_right _ (List.mem_append_left _ (List.mem_of_getElem? (i := 236) rfl))) rfl
theorem ksX1_takeTurn : Cond.selects RX1 yX1_takeTurn yX1_takeTurn ∈ zwd := zmem (List.mem_append_left _ (List.mem_of_getElem? (i := 4) rfl)) rfl
theorem knX0_cell : Cond.instanceMethod yX0_cell ∈ zwd := zmem (List.mem_append_right _ (List.mem_append_left _ (List.mem_of_getElem? (i := 239) rfl))) rfl
theorem ksX0_cell : Cond.selects RX0 yX0_cell yX0_cell ∈ zwd := zmem (List.mem_append_right _ (List.mem_append_right _ (List.mem_append_left _ (List.mem_of_getElem? (i := 0) rfl)))) rfl
theorem knX1_fetchCell : Cond.instanceMethod yX1_fetchCell ∈ zwd := zmem (List.mem_append_right _ (List.mem_append_right _ (List.mem_append_left _ (List.mem_of_getElem? (i := 4) rfl)))) rfl
theorem ksX1_fetchCell : Cond.selects RX1 yX1_fetchCell yX1_fetchCell ∈ zwd := zmem (List.mem_append_left _ (List.mem_of_getElem? (i := 5) rfl)) rfl
theorem knX0_pop : Cond.instanceMethod yX0_pop ∈ zwd := zmem (List.mem_append_right _ (List.mem_append_right _ (List.mem_append_left _ (List.mem_of_getElem? (i := 7) rfl)))) rfl
theorem ksX0_pop : Cond.selects RX0 yX0_pop yX0_pop ∈ zwd := zmem (List.mem_append_right _ (List.mem_append_right _ (List.mem_append_left _ (List.mem_of_getElem? (i := 8) rfl)))) rfl
theorem ktX1_wrappedCell : Cond.static yX1_wrappedCell ∈ zwd := zmem (List.mem_append_right _ (List.mem_append_right _ (List.mem_append_left _ (List.mem_of_getElem? (i := 11) rfl)))) rfl
theorem ktJ9_floorMod_7cf53 : Cond.static yJ9_floorMod_7cf53 ∈ zwd := zmem (List.mem_append_right _ (List.mem_append_right _ (List.mem_append_left _ (List.mem_of_getElem? (i := 14) rfl)))) rfl
theorem knX0_push : Cond.instanceMethod yX0_push ∈ zwd := zmem (List.mem_append_right _ (List.mem_append_right _ (List.mem_append_left _ (List.mem_of_getElem? (i := 17) rfl)))) rfl
theorem ksX0_push : Cond.selects RX0 yX0_push yX0_push ∈ zwd := zmem (List.mem_append_right _ (List.mem_append_right _ (List.mem_append_left _ (List.mem_of_getElem? (i := 18) rfl)))) rfl
theorem knX1_storeCell : Cond.instanceMethod yX1_storeCell ∈ zwd := zmem (List.mem_append_right _ (List.mem_append_right _ (List.mem_append_left _ (List.mem_of_getElem? (i := 22) rfl)))) rfl
theorem ksX1_storeCell : Cond.selects RX1 yX1_storeCell yX1_storeCell ∈ zwd := zmem (List.mem_append_left _ (List.mem_of_getElem? (i := 6) rfl)) rfl
theorem knX1_addOutput : Cond.instanceMethod yX1_addOutput ∈ zwd := zmem (List.mem_append_right _ (List.mem_append_right _ (List.mem_append_left _ (List.mem_of_getElem? (i := 27) rfl)))) rfl
theorem ksX1_addOutput : Cond.selects RX1 yX1_addOutput yX1_addOutput ∈ zwd := zmem (List.mem_append_left _ (List.mem_of_getElem? (i := 7) rfl)) rfl
theorem knX1_takeInput : Cond.instanceMethod yX1_takeInput ∈ zwd := zmem (List.mem_append_right _ (List.mem_append_right _ (List.mem_append_left _ (List.mem_of_getElem? (i := 31) rfl)))) rfl
theorem ksX1_takeInput : Cond.selects RX1 yX1_takeInput yX1_takeInput ∈ zwd := zmem (List.mem_append_left _ (List.mem_of_getElem? (i := 8) rfl)) rfl
theorem knX0_turn : Cond.instanceMethod yX0_turn ∈ zwd := zmem (List.mem_append_right _ (List.mem_append_right _ (List.mem_append_left _ (List.mem_of_getElem? (i := 34) rfl)))) rfl
theorem ksX0_turn : Cond.selects RX0 yX0_turn yX0_turn ∈ zwd := zmem (List.mem_append_right _ (List.mem_append_right _ (List.mem_append_left _ (List.mem_of_getElem? (i := 35) rfl)))) rfl
theorem knX1_split : Cond.instanceMethod yX1_split ∈ zwd := zmem (List.mem_append_right _ (List.mem_append_right _ (List.mem_append_left _ (List.mem_of_getElem? (i := 39) rfl)))) rfl
theorem ksX1_split : Cond.selects RX1 yX1_split yX1_split ∈ zwd := zmem (List.mem_append_left _ (List.mem_of_getElem? (i := 9) rfl)) rfl
theorem knX0_step : Cond.instanceMethod yX0_step ∈ zwd := zmem (List.mem_append_right _ (List.mem_append_right _ (List.mem_append_left _ (List.mem_of_getElem? (i := 42) rfl)))) rfl
theorem ksX0_step : Cond.selects RX0 yX0_step yX0_step ∈ zwd := zmem (List.mem_append_right _ (List.mem_append_right _ (List.mem_append_left _ (List.mem_of_getElem? (i := 43) rfl)))) rfl
theorem knX0_perform : Cond.instanceMethod yX0_perform ∈ zwd := zmem (List.mem_append_right _ (List.mem_append_right _ (List.mem_append_left _ (List.mem_of_getElem? (i := 46) rfl)))) rfl
theorem ksX0_perform : Cond.selects RX0 yX0_perform yX0_perform ∈ zwd := zmem (List.mem_append_right _ (List.mem_append_right _ (List.mem_append_left _ (List.mem_of_getElem? (i := 47) rfl)))) rfl
theorem ktX0_combine : Cond.static yX0_combine ∈ zwd := zmem (List.mem_append_right _ (List.mem_append_right _ (List.mem_append_left _ (List.mem_of_getElem? (i := 52) rfl)))) rfl
theorem knX0_openStack : Cond.instanceMethod yX0_openStack ∈ zwd := zmem (List.mem_append_right _ (List.mem_append_right _ (List.mem_append_left _ (List.mem_of_getElem? (i := 56) rfl)))) rfl
theorem ksX0_openStack : Cond.selects RX0 yX0_openStack yX0_openStack ∈ zwd := zmem (List.mem_append_left _ (List.mem_of_getElem? (i := 10) rfl)) rfl
theorem knX0_movable : Cond.instanceMethod yX0_movable ∈ zwd := zmem (List.mem_append_right _ (List.mem_append_right _ (List.mem_append_left _ (List.mem_of_getElem? (i := 60) rfl)))) rfl
theorem ksX0_movable : Cond.selects RX0 yX0_movable yX0_movable ∈ zwd := zmem (List.mem_append_left _ (List.mem_of_getElem? (i := 11) rfl)) rfl
theorem knX0_closeStack : Cond.instanceMethod yX0_closeStack ∈ zwd := zmem (List.mem_append_right _ (List.mem_append_right _ (List.mem_append_left _ (List.mem_of_getElem? (i := 64) rfl)))) rfl
theorem ksX0_closeStack : Cond.selects RX0 yX0_closeStack yX0_closeStack ∈ zwd := zmem (List.mem_append_left _ (List.mem_of_getElem? (i := 12) rfl)) rfl
theorem ktJ9_min_7cf53 : Cond.static yJ9_min_7cf53 ∈ zwd := zmem (List.mem_append_right _ (List.mem_append_right _ (List.mem_append_left _ (List.mem_of_getElem? (i := 68) rfl)))) rfl
theorem ktJ9_max_7cf53 : Cond.static yJ9_max_7cf53 ∈ zwd := zmem (List.mem_append_right _ (List.mem_append_right _ (List.mem_append_left _ (List.mem_of_getElem? (i := 71) rfl)))) rfl
theorem knX0_steer : Cond.instanceMethod yX0_steer ∈ zwd := zmem (List.mem_append_right _ (List.mem_append_right _ (List.mem_append_left _ (List.mem_of_getElem? (i := 75) rfl)))) rfl
theorem ksX0_steer : Cond.selects RX0 yX0_steer yX0_steer ∈ zwd := zmem (List.mem_append_left _ (List.mem_of_getElem? (i := 13) rfl)) rfl
theorem knX2_atBreakpoint : Cond.instanceMethod yX2_atBreakpoint ∈ zwd := zmem (List.mem_append_right _ (List.mem_append_right _ (List.mem_append_left _ (List.mem_of_getElem? (i := 80) rfl)))) rfl
theorem ksX2_atBreakpoint : Cond.selects RX2 yX2_atBreakpoint yX2_atBreakpoint ∈ zwd := zmem (List.mem_append_left _ (List.mem_of_getElem? (i := 14) rfl)) rfl
theorem knX2_run : Cond.instanceMethod yX2_run ∈ zwd := zmem (List.mem_append_right _ (List.mem_append_right _ (List.mem_append_left _ (List.mem_of_getElem? (i := 84) rfl)))) rfl
theorem ksX2_run : Cond.selects RX2 yX2_run yX2_run ∈ zwd := zmem (List.mem_append_right _ (List.mem_append_right _ (List.mem_append_left _ (List.mem_of_getElem? (i := 85) rfl)))) rfl
theorem knX2_setBreakpoint : Cond.instanceMethod yX2_setBreakpoint ∈ zwd := zmem (List.mem_append_right _ (List.mem_append_right _ (List.mem_append_left _ (List.mem_of_getElem? (i := 88) rfl)))) rfl
theorem ksX2_setBreakpoint : Cond.selects RX2 yX2_setBreakpoint yX2_setBreakpoint ∈ zwd := zmem (List.mem_append_right _ (List.mem_append_right _ (List.mem_append_left _ (List.mem_of_getElem? (i := 89) rfl)))) rfl
theorem knX2_undo : Cond.instanceMethod yX2_undo ∈ zwd := zmem (List.mem_append_right _ (List.mem_append_right _ (List.mem_append_left _ (List.mem_of_getElem? (i := 92) rfl)))) rfl
theorem ksX2_undo : Cond.selects RX2 yX2_undo yX2_undo ∈ zwd := zmem (List.mem_append_right _ (List.mem_append_right _ (List.mem_append_left _ (List.mem_of_getElem? (i := 93) rfl)))) rfl
theorem knX2_ticksToHalt : Cond.instanceMethod yX2_ticksToHalt ∈ zwd := zmem (List.mem_append_right _ (List.mem_append_right _ (List.mem_append_left _ (List.mem_of_getElem? (i := 96) rfl)))) rfl
theorem ksX2_ticksToHalt : Cond.selects RX2 yX2_ticksToHalt yX2_ticksToHalt ∈ zwd := zmem (List.mem_append_right _ (List.mem_append_right _ (List.mem_append_left _ (List.mem_of_getElem? (i := 97) rfl)))) rfl
theorem knX2_cycleStart : Cond.instanceMethod yX2_cycleStart ∈ zwd := zmem (List.mem_append_right _ (List.mem_append_right _ (List.mem_append_left _ (List.mem_of_getElem? (i := 100) rfl)))) rfl
theorem ksX2_cycleStart : Cond.selects RX2 yX2_cycleStart yX2_cycleStart ∈ zwd := zmem (List.mem_append_right _ (List.mem_append_right _ (List.mem_append_left _ (List.mem_of_getElem? (i := 101) rfl)))) rfl
theorem knX2_findPeriod : Cond.instanceMethod yX2_findPeriod ∈ zwd := zmem (List.mem_append_right _ (List.mem_append_right _ (List.mem_append_left _ (List.mem_of_getElem? (i := 105) rfl)))) rfl
theorem ksX2_findPeriod : Cond.selects RX2 yX2_findPeriod yX2_findPeriod ∈ zwd := zmem (List.mem_append_left _ (List.mem_of_getElem? (i := 15) rfl)) rfl
theorem knX1_hasConfigurationOf : Cond.instanceMethod yX1_hasConfigurationOf ∈ zwd := zmem (List.mem_append_right _ (List.mem_append_right _ (List.mem_append_left _ (List.mem_of_getElem? (i := 108) rfl)))) rfl
theorem ksX1_hasConfigurationOf : Cond.selects RX1 yX1_hasConfigurationOf yX1_hasConfigurationOf ∈ zwd := zmem (List.mem_append_right _ (List.mem_append_right _ (List.mem_append_left _ (List.mem_of_getElem? (i := 109) rfl)))) rfl
theorem knX0_isLike : Cond.instanceMethod yX0_isLike ∈ zwd := zmem (List.mem_append_right _ (List.mem_append_right _ (List.mem_append_left _ (List.mem_of_getElem? (i := 112) rfl)))) rfl
theorem ksX0_isLike : Cond.selects RX0 yX0_isLike yX0_isLike ∈ zwd := zmem (List.mem_append_right _ (List.mem_append_right _ (List.mem_append_left _ (List.mem_of_getElem? (i := 113) rfl)))) rfl
theorem knX2_findCycleEntry : Cond.instanceMethod yX2_findCycleEntry ∈ zwd := zmem (List.mem_append_right _ (List.mem_append_right _ (List.mem_append_left _ (List.mem_of_getElem? (i := 117) rfl)))) rfl
theorem ksX2_findCycleEntry : Cond.selects RX2 yX2_findCycleEntry yX2_findCycleEntry ∈ zwd := zmem (List.mem_append_left _ (List.mem_of_getElem? (i := 16) rfl)) rfl
theorem knX2_cycleLength : Cond.instanceMethod yX2_cycleLength ∈ zwd := zmem (List.mem_append_right _ (List.mem_append_right _ (List.mem_append_left _ (List.mem_of_getElem? (i := 120) rfl)))) rfl
theorem ksX2_cycleLength : Cond.selects RX2 yX2_cycleLength yX2_cycleLength ∈ zwd := zmem (List.mem_append_right _ (List.mem_append_right _ (List.mem_append_left _ (List.mem_of_getElem? (i := 121) rfl)))) rfl
theorem knX2_cellAt : Cond.instanceMethod yX2_cellAt ∈ zwd := zmem (List.mem_append_right _ (List.mem_append_right _ (List.mem_append_left _ (List.mem_of_getElem? (i := 124) rfl)))) rfl
theorem ksX2_cellAt : Cond.selects RX2 yX2_cellAt yX2_cellAt ∈ zwd := zmem (List.mem_append_right _ (List.mem_append_right _ (List.mem_append_left _ (List.mem_of_getElem? (i := 125) rfl)))) rfl
theorem knX2_changedCells : Cond.instanceMethod yX2_changedCells ∈ zwd := zmem (List.mem_append_right _ (List.mem_append_right _ (List.mem_append_left _ (List.mem_of_getElem? (i := 128) rfl)))) rfl
theorem ksX2_changedCells : Cond.selects RX2 yX2_changedCells yX2_changedCells ∈ zwd := zmem (List.mem_append_right _ (List.mem_append_right _ (List.mem_append_left _ (List.mem_of_getElem? (i := 129) rfl)))) rfl
theorem knX2_pointerCount : Cond.instanceMethod yX2_pointerCount ∈ zwd := zmem (List.mem_append_right _ (List.mem_append_right _ (List.mem_append_left _ (List.mem_of_getElem? (i := 132) rfl)))) rfl
theorem ksX2_pointerCount : Cond.selects RX2 yX2_pointerCount yX2_pointerCount ∈ zwd := zmem (List.mem_append_right _ (List.mem_append_right _ (List.mem_append_left _ (List.mem_of_getElem? (i := 133) rfl)))) rfl
theorem knX2_pointerAt : Cond.instanceMethod yX2_pointerAt ∈ zwd := zmem (List.mem_append_right _ (List.mem_append_right _ (List.mem_append_left _ (List.mem_of_getElem? (i := 136) rfl)))) rfl
theorem ksX2_pointerAt : Cond.selects RX2 yX2_pointerAt yX2_pointerAt ∈ zwd := zmem (List.mem_append_right _ (List.mem_append_right _ (List.mem_append_left _ (List.mem_of_getElem? (i := 137) rfl)))) rfl
theorem knX2_isPointer : Cond.instanceMethod yX2_isPointer ∈ zwd := zmem (List.mem_append_right _ (List.mem_append_right _ (List.mem_append_left _ (List.mem_of_getElem? (i := 141) rfl)))) rfl
theorem ksX2_isPointer : Cond.selects RX2 yX2_isPointer yX2_isPointer ∈ zwd := zmem (List.mem_append_left _ (List.mem_of_getElem? (i := 17) rfl)) rfl
theorem knX2_position : Cond.instanceMethod yX2_position ∈ zwd := zmem (List.mem_append_right _ (List.mem_append_right _ (List.mem_append_left _ (List.mem_of_getElem? (i := 144) rfl)))) rfl
theorem ksX2_position : Cond.selects RX2 yX2_position yX2_position ∈ zwd := zmem (List.mem_append_right _ (List.mem_append_right _ (List.mem_append_left _ (List.mem_of_getElem? (i := 145) rfl)))) rfl
theorem knX2_direction : Cond.instanceMethod yX2_direction ∈ zwd := zmem (List.mem_append_right _ (List.mem_append_right _ (List.mem_append_left _ (List.mem_of_getElem? (i := 148) rfl)))) rfl
theorem ksX2_direction : Cond.selects RX2 yX2_direction yX2_direction ∈ zwd := zmem (List.mem_append_right _ (List.mem_append_right _ (List.mem_append_left _ (List.mem_of_getElem? (i := 149) rfl)))) rfl
theorem knX2_status : Cond.instanceMethod yX2_status ∈ zwd := zmem (List.mem_append_right _ (List.mem_append_right _ (List.mem_append_left _ (List.mem_of_getElem? (i := 152) rfl)))) rfl
theorem ksX2_status : Cond.selects RX2 yX2_status yX2_status ∈ zwd := zmem (List.mem_append_right _ (List.mem_append_right _ (List.mem_append_left _ (List.mem_of_getElem? (i := 153) rfl)))) rfl
theorem knX2_sleep : Cond.instanceMethod yX2_sleep ∈ zwd := zmem (List.mem_append_right _ (List.mem_append_right _ (List.mem_append_left _ (List.mem_of_getElem? (i := 156) rfl)))) rfl
theorem ksX2_sleep : Cond.selects RX2 yX2_sleep yX2_sleep ∈ zwd := zmem (List.mem_append_right _ (List.mem_append_right _ (List.mem_append_left _ (List.mem_of_getElem? (i := 157) rfl)))) rfl
theorem knX2_stackCount : Cond.instanceMethod yX2_stackCount ∈ zwd := zmem (List.mem_append_right _ (List.mem_append_right _ (List.mem_append_left _ (List.mem_of_getElem? (i := 160) rfl)))) rfl
theorem ksX2_stackCount : Cond.selects RX2 yX2_stackCount yX2_stackCount ∈ zwd := zmem (List.mem_append_right _ (List.mem_append_right _ (List.mem_append_left _ (List.mem_of_getElem? (i := 161) rfl)))) rfl
theorem knX2_stackSize : Cond.instanceMethod yX2_stackSize ∈ zwd := zmem (List.mem_append_right _ (List.mem_append_right _ (List.mem_append_left _ (List.mem_of_getElem? (i := 164) rfl)))) rfl
theorem ksX2_stackSize : Cond.selects RX2 yX2_stackSize yX2_stackSize ∈ zwd := zmem (List.mem_append_right _ (List.mem_append_right _ (List.mem_append_left _ (List.mem_of_getElem? (i := 165) rfl)))) rfl
theorem knX2_isStack : Cond.instanceMethod yX2_isStack ∈ zwd := zmem (List.mem_append_right _ (List.mem_append_right _ (List.mem_append_left _ (List.mem_of_getElem? (i := 169) rfl)))) rfl
theorem ksX2_isStack : Cond.selects RX2 yX2_isStack yX2_isStack ∈ zwd := zmem (List.mem_append_left _ (List.mem_of_getElem? (i := 18) rfl)) rfl
theorem knX2_valueAt : Cond.instanceMethod yX2_valueAt ∈ zwd := zmem (List.mem_append_right _ (List.mem_append_right _ (List.mem_append_left _ (List.mem_of_getElem? (i := 172) rfl)))) rfl
theorem ksX2_valueAt : Cond.selects RX2 yX2_valueAt yX2_valueAt ∈ zwd := zmem (List.mem_append_right _ (List.mem_append_right _ (List.mem_append_left _ (List.mem_of_getElem? (i := 173) rfl)))) rfl
theorem knX0_stackBegin : Cond.instanceMethod yX0_stackBegin ∈ zwd := zmem (List.mem_append_right _ (List.mem_append_right _ (List.mem_append_left _ (List.mem_of_getElem? (i := 176) rfl)))) rfl
theorem ksX0_stackBegin : Cond.selects RX0 yX0_stackBegin yX0_stackBegin ∈ zwd := zmem (List.mem_append_right _ (List.mem_append_right _ (List.mem_append_left _ (List.mem_of_getElem? (i := 177) rfl)))) rfl
theorem knX2_inputSize : Cond.instanceMethod yX2_inputSize ∈ zwd := zmem (List.mem_append_right _ (List.mem_append_right _ (List.mem_append_left _ (List.mem_of_getElem? (i := 180) rfl)))) rfl
theorem ksX2_inputSize : Cond.selects RX2 yX2_inputSize yX2_inputSize ∈ zwd := zmem (List.mem_append_right _ (List.mem_append_right _ (List.mem_append_left _ (List.mem_of_getElem? (i := 181) rfl)))) rfl
theorem knX2_outputSize : Cond.instanceMethod yX2_outputSize ∈ zwd := zmem (List.mem_append_right _ (List.mem_append_right _ (List.mem_append_left _ (List.mem_of_getElem? (i := 184) rfl)))) rfl
theorem ksX2_outputSize : Cond.selects RX2 yX2_outputSize yX2_outputSize ∈ zwd := zmem (List.mem_append_right _ (List.mem_append_right _ (List.mem_append_left _ (List.mem_of_getElem? (i := 185) rfl)))) rfl
theorem knX2_outputAt : Cond.instanceMethod yX2_outputAt ∈ zwd := zmem (List.mem_append_right _ (List.mem_append_right _ (List.mem_append_left _ (List.mem_of_getElem? (i := 188) rfl)))) rfl
theorem ksX2_outputAt : Cond.selects RX2 yX2_outputAt yX2_outputAt ∈ zwd := zmem (List.mem_append_right _ (List.mem_append_right _ (List.mem_append_left _ (List.mem_of_getElem? (i := 189) rfl)))) rfl
theorem knX2_outputTotal : Cond.instanceMethod yX2_outputTotal ∈ zwd := zmem (List.mem_append_right _ (List.mem_append_right _ (List.mem_append_left _ (List.mem_of_getElem? (i := 192) rfl)))) rfl
theorem ksX2_outputTotal : Cond.selects RX2 yX2_outputTotal yX2_outputTotal ∈ zwd := zmem (List.mem_append_right _ (List.mem_append_right _ (List.mem_append_left _ (List.mem_of_getElem? (i := 193) rfl)))) rfl
theorem knX2_tickCount : Cond.instanceMethod yX2_tickCount ∈ zwd := zmem (List.mem_append_right _ (List.mem_append_right _ (List.mem_append_left _ (List.mem_of_getElem? (i := 196) rfl)))) rfl
theorem ksX2_tickCount : Cond.selects RX2 yX2_tickCount yX2_tickCount ∈ zwd := zmem (List.mem_append_right _ (List.mem_append_right _ (List.mem_append_left _ (List.mem_of_getElem? (i := 197) rfl)))) rfl
theorem knX2_save : Cond.instanceMethod yX2_save ∈ zwd := zmem (List.mem_append_right _ (List.mem_append_right _ (List.mem_append_left _ (List.mem_of_getElem? (i := 200) rfl)))) rfl
theorem ksX2_save : Cond.selects RX2 yX2_save yX2_save ∈ zwd := zmem (List.mem_append_right _ (List.mem_append_right _ (List.mem_append_left _ (List.mem_of_getElem? (i := 201) rfl)))) rfl
theorem knX2_restore : Cond.instanceMethod yX2_restore ∈ zwd := zmem (List.mem_append_right _ (List.mem_append_right _ (List.mem_append_left _ (List.mem_of_getElem? (i := 204) rfl)))) rfl
theorem ksX2_restore : Cond.selects RX2 yX2_restore yX2_restore ∈ zwd := zmem (List.mem_append_right _ (List.mem_append_right _ (List.mem_append_left _ (List.mem_of_getElem? (i := 205) rfl)))) rfl
theorem knX2_undoDepth : Cond.instanceMethod yX2_undoDepth ∈ zwd := zmem (List.mem_append_right _ (List.mem_append_right _ (List.mem_append_left _ (List.mem_of_getElem? (i := 208) rfl)))) rfl
theorem ksX2_undoDepth : Cond.selects RX2 yX2_undoDepth yX2_undoDepth ∈ zwd := zmem (List.mem_append_right _ (List.mem_append_right _ (List.mem_append_left _ (List.mem_of_getElem? (i := 209) rfl)))) rfl
theorem knX3_init : Cond.instanceMethod yX3_init ∈ zwd := zmem (List.mem_append_right _ (List.mem_append_right _ (List.mem_append_left _ (List.mem_of_getElem? (i := 214) rfl)))) rfl
theorem knX3_begin : Cond.instanceMethod yX3_begin ∈ zwd := zmem (List.mem_append_right _ (List.mem_append_right _ (List.mem_append_left _ (List.mem_of_getElem? (i := 219) rfl)))) rfl
theorem ksX3_begin : Cond.selects RX3 yX3_begin yX3_begin ∈ zwd := zmem (List.mem_append_left _ (List.mem_of_getElem? (i := 19) rfl)) rfl
theorem knX3_undo : Cond.instanceMethod yX3_undo ∈ zwd := zmem (List.mem_append_right _ (List.mem_append_right _ (List.mem_append_right _ (List.mem_append_left _ (List.mem_of_getElem? (i := 25) rfl))))) rfl
theorem ksX3_undo : Cond.selects RX3 yX3_undo yX3_undo ∈ zwd := zmem (List.mem_append_right _ (List.mem_append_right _ (List.mem_append_right _ (List.mem_append_left _ (List.mem_of_getElem? (i := 26) rfl))))) rfl
theorem knX3_append : Cond.instanceMethod yX3_append ∈ zwd := zmem (List.mem_append_right _ (List.mem_append_right _ (List.mem_append_right _ (List.mem_append_left _ (List.mem_of_getElem? (i := 29) rfl))))) rfl
theorem ksX3_append : Cond.selects RX3 yX3_append yX3_append ∈ zwd := zmem (List.mem_append_right _ (List.mem_append_right _ (List.mem_append_right _ (List.mem_append_left _ (List.mem_of_getElem? (i := 30) rfl))))) rfl
theorem ktX3_in : Cond.static yX3_in ∈ zwd := zmem (List.mem_append_right _ (List.mem_append_right _ (List.mem_append_right _ (List.mem_append_left _ (List.mem_of_getElem? (i := 33) rfl))))) rfl
theorem knX3_clearText : Cond.instanceMethod yX3_clearText ∈ zwd := zmem (List.mem_append_right _ (List.mem_append_right _ (List.mem_append_right _ (List.mem_append_left _ (List.mem_of_getElem? (i := 36) rfl))))) rfl
theorem ksX3_clearText : Cond.selects RX3 yX3_clearText yX3_clearText ∈ zwd := zmem (List.mem_append_right _ (List.mem_append_right _ (List.mem_append_right _ (List.mem_append_left _ (List.mem_of_getElem? (i := 37) rfl))))) rfl
theorem knX3_load : Cond.instanceMethod yX3_load ∈ zwd := zmem (List.mem_append_right _ (List.mem_append_right _ (List.mem_append_right _ (List.mem_append_left _ (List.mem_of_getElem? (i := 40) rfl))))) rfl
theorem ksX3_load : Cond.selects RX3 yX3_load yX3_load ∈ zwd := zmem (List.mem_append_right _ (List.mem_append_right _ (List.mem_append_right _ (List.mem_append_left _ (List.mem_of_getElem? (i := 41) rfl))))) rfl
theorem knX3_errorPosition : Cond.instanceMethod yX3_errorPosition ∈ zwd := zmem (List.mem_append_right _ (List.mem_append_right _ (List.mem_append_right _ (List.mem_append_left _ (List.mem_of_getElem? (i := 45) rfl))))) rfl
theorem ksX3_errorPosition : Cond.selects RX3 yX3_errorPosition yX3_errorPosition ∈ zwd := zmem (List.mem_append_left _ (List.mem_of_getElem? (i := 20) rfl)) rfl
theorem knX3_remember : Cond.instanceMethod yX3_remember ∈ zwd := zmem (List.mem_append_right _ (List.mem_append_right _ (List.mem_append_right _ (List.mem_append_left _ (List.mem_of_getElem? (i := 49) rfl))))) rfl
theorem ksX3_remember : Cond.selects RX3 yX3_remember yX3_remember ∈ zwd := zmem (List.mem_append_left _ (List.mem_of_getElem? (i := 21) rfl)) rfl
theorem knX3_saveBefore : Cond.instanceMethod yX3_saveBefore ∈ zwd := zmem (List.mem_append_right _ (List.mem_append_right _ (List.mem_append_right _ (List.mem_append_left _ (List.mem_of_getElem? (i := 53) rfl))))) rfl
theorem ksX3_saveBefore : Cond.selects RX3 yX3_saveBefore yX3_saveBefore ∈ zwd := zmem (List.mem_append_left _ (List.mem_of_getElem? (i := 22) rfl)) rfl
theorem knX3_rewind : Cond.instanceMethod yX3_rewind ∈ zwd := zmem (List.mem_append_right _ (List.mem_append_right _ (List.mem_append_right _ (List.mem_append_left _ (List.mem_of_getElem? (i := 56) rfl))))) rfl
theorem ksX3_rewind : Cond.selects RX3 yX3_rewind yX3_rewind ∈ zwd := zmem (List.mem_append_right _ (List.mem_append_right _ (List.mem_append_right _ (List.mem_append_left _ (List.mem_of_getElem? (i := 57) rfl))))) rfl
theorem knX3_feed : Cond.instanceMethod yX3_feed ∈ zwd := zmem (List.mem_append_right _ (List.mem_append_right _ (List.mem_append_right _ (List.mem_append_left _ (List.mem_of_getElem? (i := 60) rfl))))) rfl
theorem ksX3_feed : Cond.selects RX3 yX3_feed yX3_feed ∈ zwd := zmem (List.mem_append_right _ (List.mem_append_right _ (List.mem_append_right _ (List.mem_append_left _ (List.mem_of_getElem? (i := 61) rfl))))) rfl
theorem knX3_poke : Cond.instanceMethod yX3_poke ∈ zwd := zmem (List.mem_append_right _ (List.mem_append_right _ (List.mem_append_right _ (List.mem_append_left _ (List.mem_of_getElem? (i := 64) rfl))))) rfl
theorem ksX3_poke : Cond.selects RX3 yX3_poke yX3_poke ∈ zwd := zmem (List.mem_append_right _ (List.mem_append_right _ (List.mem_append_right _ (List.mem_append_left _ (List.mem_of_getElem? (i := 65) rfl))))) rfl
theorem ktX3_isCell : Cond.static yX3_isCell ∈ zwd := zmem (List.mem_append_right _ (List.mem_append_right _ (List.mem_append_right _ (List.mem_append_left _ (List.mem_of_getElem? (i := 68) rfl))))) rfl
theorem knX3_tick : Cond.instanceMethod yX3_tick ∈ zwd := zmem (List.mem_append_right _ (List.mem_append_right _ (List.mem_append_right _ (List.mem_append_left _ (List.mem_of_getElem? (i := 71) rfl))))) rfl
theorem ksX3_tick : Cond.selects RX3 yX3_tick yX3_tick ∈ zwd := zmem (List.mem_append_right _ (List.mem_append_right _ (List.mem_append_right _ (List.mem_append_left _ (List.mem_of_getElem? (i := 72) rfl))))) rfl
theorem knX3_perform : Cond.instanceMethod yX3_perform ∈ zwd := zmem (List.mem_append_right _ (List.mem_append_right _ (List.mem_append_right _ (List.mem_append_left _ (List.mem_of_getElem? (i := 76) rfl))))) rfl
theorem ksX3_perform : Cond.selects RX3 yX3_perform yX3_perform ∈ zwd := zmem (List.mem_append_left _ (List.mem_of_getElem? (i := 23) rfl)) rfl
theorem knX3_isHalted : Cond.instanceMethod yX3_isHalted ∈ zwd := zmem (List.mem_append_right _ (List.mem_append_right _ (List.mem_append_right _ (List.mem_append_left _ (List.mem_of_getElem? (i := 80) rfl))))) rfl
theorem ksX3_isHalted : Cond.selects RX3 yX3_isHalted yX3_isHalted ∈ zwd := zmem (List.mem_append_left _ (List.mem_of_getElem? (i := 24) rfl)) rfl
theorem knX3_of : Cond.instanceMethod yX3_of ∈ zwd := zmem (List.mem_append_right _ (List.mem_append_right _ (List.mem_append_right _ (List.mem_append_left _ (List.mem_of_getElem? (i := 84) rfl))))) rfl
theorem ksX3_of : Cond.selects RX3 yX3_of yX3_of ∈ zwd := zmem (List.mem_append_left _ (List.mem_of_getElem? (i := 25) rfl)) rfl
theorem knX3_step : Cond.instanceMethod yX3_step ∈ zwd := zmem (List.mem_append_right _ (List.mem_append_right _ (List.mem_append_right _ (List.mem_append_left _ (List.mem_of_getElem? (i := 88) rfl))))) rfl
theorem ksX3_step : Cond.selects RX3 yX3_step yX3_step ∈ zwd := zmem (List.mem_append_left _ (List.mem_of_getElem? (i := 26) rfl)) rfl
theorem knX3_takeTurn : Cond.instanceMethod yX3_takeTurn ∈ zwd := zmem (List.mem_append_right _ (List.mem_append_right _ (List.mem_append_right _ (List.mem_append_left _ (List.mem_of_getElem? (i := 92) rfl))))) rfl
theorem ksX3_takeTurn : Cond.selects RX3 yX3_takeTurn yX3_takeTurn ∈ zwd := zmem (List.mem_append_left _ (List.mem_of_getElem? (i := 27) rfl)) rfl
theorem knX3_put : Cond.instanceMethod yX3_put ∈ zwd := zmem (List.mem_append_right _ (List.mem_append_right _ (List.mem_append_right _ (List.mem_append_left _ (List.mem_of_getElem? (i := 96) rfl))))) rfl
theorem ksX3_put : Cond.selects RX3 yX3_put yX3_put ∈ zwd := zmem (List.mem_append_left _ (List.mem_of_getElem? (i := 28) rfl)) rfl
theorem knX3_execute : Cond.instanceMethod yX3_execute ∈ zwd := zmem (List.mem_append_right _ (List.mem_append_right _ (List.mem_append_right _ (List.mem_append_left _ (List.mem_of_getElem? (i := 100) rfl))))) rfl
theorem ksX3_execute : Cond.selects RX3 yX3_execute yX3_execute ∈ zwd := zmem (List.mem_append_left _ (List.mem_of_getElem? (i := 29) rfl)) rfl
theorem knX3_push : Cond.instanceMethod yX3_push ∈ zwd := zmem (List.mem_append_right _ (List.mem_append_right _ (List.mem_append_right _ (List.mem_append_left _ (List.mem_of_getElem? (i := 104) rfl))))) rfl
theorem ksX3_push : Cond.selects RX3 yX3_push yX3_push ∈ zwd := zmem (List.mem_append_left _ (List.mem_of_getElem? (i := 30) rfl)) rfl
theorem knX3_heldBy : Cond.instanceMethod yX3_heldBy ∈ zwd := zmem (List.mem_append_right _ (List.mem_append_right _ (List.mem_append_right _ (List.mem_append_left _ (List.mem_of_getElem? (i := 108) rfl))))) rfl
theorem ksX3_heldBy : Cond.selects RX3 yX3_heldBy yX3_heldBy ∈ zwd := zmem (List.mem_append_left _ (List.mem_of_getElem? (i := 31) rfl)) rfl
theorem knX3_current : Cond.instanceMethod yX3_current ∈ zwd := zmem (List.mem_append_right _ (List.mem_append_right _ (List.mem_append_right _ (List.mem_append_left _ (List.mem_of_getElem? (i := 112) rfl))))) rfl
theorem ksX3_current : Cond.selects RX3 yX3_current yX3_current ∈ zwd := zmem (List.mem_append_left _ (List.mem_of_getElem? (i := 32) rfl)) rfl
theorem knX3_pop : Cond.instanceMethod yX3_pop ∈ zwd := zmem (List.mem_append_right _ (List.mem_append_right _ (List.mem_append_right _ (List.mem_append_left _ (List.mem_of_getElem? (i := 116) rfl))))) rfl
theorem ksX3_pop : Cond.selects RX3 yX3_pop yX3_pop ∈ zwd := zmem (List.mem_append_left _ (List.mem_of_getElem? (i := 33) rfl)) rfl
theorem ktX3_operate : Cond.static yX3_operate ∈ zwd := zmem (List.mem_append_right _ (List.mem_append_right _ (List.mem_append_right _ (List.mem_append_left _ (List.mem_of_getElem? (i := 119) rfl))))) rfl
theorem knX3_duplicate : Cond.instanceMethod yX3_duplicate ∈ zwd := zmem (List.mem_append_right _ (List.mem_append_right _ (List.mem_append_right _ (List.mem_append_left _ (List.mem_of_getElem? (i := 123) rfl))))) rfl
theorem ksX3_duplicate : Cond.selects RX3 yX3_duplicate yX3_duplicate ∈ zwd := zmem (List.mem_append_left _ (List.mem_of_getElem? (i := 34) rfl)) rfl
theorem knX3_swapTop : Cond.instanceMethod yX3_swapTop ∈ zwd := zmem (List.mem_append_right _ (List.mem_append_right _ (List.mem_append_right _ (List.mem_append_left _ (List.mem_of_getElem? (i := 127) rfl))))) rfl
theorem ksX3_swapTop : Cond.selects RX3 yX3_swapTop yX3_swapTop ∈ zwd := zmem (List.mem_append_left _ (List.mem_of_getElem? (i := 35) rfl)) rfl
theorem knX3_turn : Cond.instanceMethod yX3_turn ∈ zwd := zmem (List.mem_append_right _ (List.mem_append_right _ (List.mem_append_right _ (List.mem_append_left _ (List.mem_of_getElem? (i := 131) rfl))))) rfl
theorem ksX3_turn : Cond.selects RX3 yX3_turn yX3_turn ∈ zwd := zmem (List.mem_append_left _ (List.mem_of_getElem? (i := 36) rfl)) rfl
theorem knX3_move : Cond.instanceMethod yX3_move ∈ zwd := zmem (List.mem_append_right _ (List.mem_append_right _ (List.mem_append_right _ (List.mem_append_left _ (List.mem_of_getElem? (i := 135) rfl))))) rfl
theorem ksX3_move : Cond.selects RX3 yX3_move yX3_move ∈ zwd := zmem (List.mem_append_left _ (List.mem_of_getElem? (i := 37) rfl)) rfl
theorem knX3_fetch : Cond.instanceMethod yX3_fetch ∈ zwd := zmem (List.mem_append_right _ (List.mem_append_right _ (List.mem_append_right _ (List.mem_append_left _ (List.mem_of_getElem? (i := 139) rfl))))) rfl
theorem ksX3_fetch : Cond.selects RX3 yX3_fetch yX3_fetch ∈ zwd := zmem (List.mem_append_left _ (List.mem_of_getElem? (i := 38) rfl)) rfl
theorem ktX3_cell : Cond.static yX3_cell ∈ zwd := zmem (List.mem_append_right _ (List.mem_append_right _ (List.mem_append_right _ (List.mem_append_left _ (List.mem_of_getElem? (i := 142) rfl))))) rfl
theorem ktX3_modulo : Cond.static yX3_modulo ∈ zwd := zmem (List.mem_append_right _ (List.mem_append_right _ (List.mem_append_right _ (List.mem_append_left _ (List.mem_of_getElem? (i := 145) rfl))))) rfl
theorem knX3_store : Cond.instanceMethod yX3_store ∈ zwd := zmem (List.mem_append_right _ (List.mem_append_right _ (List.mem_append_right _ (List.mem_append_left _ (List.mem_of_getElem? (i := 149) rfl))))) rfl
theorem ksX3_store : Cond.selects RX3 yX3_store yX3_store ∈ zwd := zmem (List.mem_append_left _ (List.mem_of_getElem? (i := 39) rfl)) rfl
theorem knX3_output : Cond.instanceMethod yX3_output ∈ zwd := zmem (List.mem_append_right _ (List.mem_append_right _ (List.mem_append_right _ (List.mem_append_left _ (List.mem_of_getElem? (i := 153) rfl))))) rfl
theorem ksX3_output : Cond.selects RX3 yX3_output yX3_output ∈ zwd := zmem (List.mem_append_left _ (List.mem_of_getElem? (i := 40) rfl)) rfl
theorem knX3_input : Cond.instanceMethod yX3_input ∈ zwd := zmem (List.mem_append_right _ (List.mem_append_right _ (List.mem_append_right _ (List.mem_append_left _ (List.mem_of_getElem? (i := 157) rfl))))) rfl
theorem ksX3_input : Cond.selects RX3 yX3_input yX3_input ∈ zwd := zmem (List.mem_append_left _ (List.mem_of_getElem? (i := 41) rfl)) rfl
theorem ktX3_clamp : Cond.static yX3_clamp ∈ zwd := zmem (List.mem_append_right _ (List.mem_append_right _ (List.mem_append_right _ (List.mem_append_left _ (List.mem_of_getElem? (i := 160) rfl))))) rfl
theorem knX3_split : Cond.instanceMethod yX3_split ∈ zwd := zmem (List.mem_append_right _ (List.mem_append_right _ (List.mem_append_right _ (List.mem_append_left _ (List.mem_of_getElem? (i := 164) rfl))))) rfl
theorem ksX3_split : Cond.selects RX3 yX3_split yX3_split ∈ zwd := zmem (List.mem_append_left _ (List.mem_of_getElem? (i := 42) rfl)) rfl
theorem knX3_openStack : Cond.instanceMethod yX3_openStack ∈ zwd := zmem (List.mem_append_right _ (List.mem_append_right _ (List.mem_append_right _ (List.mem_append_left _ (List.mem_of_getElem? (i := 168) rfl))))) rfl
theorem ksX3_openStack : Cond.selects RX3 yX3_openStack yX3_openStack ∈ zwd := zmem (List.mem_append_left _ (List.mem_of_getElem? (i := 43) rfl)) rfl
theorem knX3_closeStack : Cond.instanceMethod yX3_closeStack ∈ zwd := zmem (List.mem_append_right _ (List.mem_append_right _ (List.mem_append_right _ (List.mem_append_left _ (List.mem_of_getElem? (i := 172) rfl))))) rfl
theorem ksX3_closeStack : Cond.selects RX3 yX3_closeStack yX3_closeStack ∈ zwd := zmem (List.mem_append_left _ (List.mem_of_getElem? (i := 44) rfl)) rfl
theorem knX3_isAtBreakpoint : Cond.instanceMethod yX3_isAtBreakpoint ∈ zwd := zmem (List.mem_append_right _ (List.mem_append_right _ (List.mem_append_right _ (List.mem_append_left _ (List.mem_of_getElem? (i := 176) rfl))))) rfl
theorem ksX3_isAtBreakpoint : Cond.selects RX3 yX3_isAtBreakpoint yX3_isAtBreakpoint ∈ zwd := zmem (List.mem_append_left _ (List.mem_of_getElem? (i := 45) rfl)) rfl
theorem knX3_run : Cond.instanceMethod yX3_run ∈ zwd := zmem (List.mem_append_right _ (List.mem_append_right _ (List.mem_append_right _ (List.mem_append_left _ (List.mem_of_getElem? (i := 179) rfl))))) rfl
theorem ksX3_run : Cond.selects RX3 yX3_run yX3_run ∈ zwd := zmem (List.mem_append_right _ (List.mem_append_right _ (List.mem_append_right _ (List.mem_append_left _ (List.mem_of_getElem? (i := 180) rfl))))) rfl
theorem knX3_setBreakpoint : Cond.instanceMethod yX3_setBreakpoint ∈ zwd := zmem (List.mem_append_right _ (List.mem_append_right _ (List.mem_append_right _ (List.mem_append_left _ (List.mem_of_getElem? (i := 183) rfl))))) rfl
theorem ksX3_setBreakpoint : Cond.selects RX3 yX3_setBreakpoint yX3_setBreakpoint ∈ zwd := zmem (List.mem_append_right _ (List.mem_append_right _ (List.mem_append_right _ (List.mem_append_left _ (List.mem_of_getElem? (i := 184) rfl))))) rfl
theorem knX3_breakpoints : Cond.instanceMethod yX3_breakpoints ∈ zwd := zmem (List.mem_append_right _ (List.mem_append_right _ (List.mem_append_right _ (List.mem_append_left _ (List.mem_of_getElem? (i := 188) rfl))))) rfl
theorem ksX3_breakpoints : Cond.selects RX3 yX3_breakpoints yX3_breakpoints ∈ zwd := zmem (List.mem_append_left _ (List.mem_of_getElem? (i := 46) rfl)) rfl
theorem knX3_ticksToHalt : Cond.instanceMethod yX3_ticksToHalt ∈ zwd := zmem (List.mem_append_right _ (List.mem_append_right _ (List.mem_append_right _ (List.mem_append_left _ (List.mem_of_getElem? (i := 191) rfl))))) rfl
theorem ksX3_ticksToHalt : Cond.selects RX3 yX3_ticksToHalt yX3_ticksToHalt ∈ zwd := zmem (List.mem_append_right _ (List.mem_append_right _ (List.mem_append_right _ (List.mem_append_left _ (List.mem_of_getElem? (i := 192) rfl))))) rfl
theorem knX3_halts : Cond.instanceMethod yX3_halts ∈ zwd := zmem (List.mem_append_right _ (List.mem_append_right _ (List.mem_append_right _ (List.mem_append_left _ (List.mem_of_getElem? (i := 196) rfl))))) rfl
theorem ksX3_halts : Cond.selects RX3 yX3_halts yX3_halts ∈ zwd := zmem (List.mem_append_left _ (List.mem_of_getElem? (i := 47) rfl)) rfl
theorem knX3_setAside : Cond.instanceMethod yX3_setAside ∈ zwd := zmem (List.mem_append_right _ (List.mem_append_right _ (List.mem_append_right _ (List.mem_append_left _ (List.mem_of_getElem? (i := 200) rfl))))) rfl
theorem ksX3_setAside : Cond.selects RX3 yX3_setAside yX3_setAside ∈ zwd := zmem (List.mem_append_left _ (List.mem_of_getElem? (i := 48) rfl)) rfl
theorem knX3_takeBack : Cond.instanceMethod yX3_takeBack ∈ zwd := zmem (List.mem_append_right _ (List.mem_append_right _ (List.mem_append_right _ (List.mem_append_left _ (List.mem_of_getElem? (i := 204) rfl))))) rfl
theorem ksX3_takeBack : Cond.selects RX3 yX3_takeBack yX3_takeBack ∈ zwd := zmem (List.mem_append_left _ (List.mem_of_getElem? (i := 49) rfl)) rfl
theorem knX3_cycleStart : Cond.instanceMethod yX3_cycleStart ∈ zwd := zmem (List.mem_append_right _ (List.mem_append_right _ (List.mem_append_right _ (List.mem_append_left _ (List.mem_of_getElem? (i := 207) rfl))))) rfl
theorem ksX3_cycleStart : Cond.selects RX3 yX3_cycleStart yX3_cycleStart ∈ zwd := zmem (List.mem_append_right _ (List.mem_append_right _ (List.mem_append_right _ (List.mem_append_left _ (List.mem_of_getElem? (i := 208) rfl))))) rfl
theorem knX3_findCycle : Cond.instanceMethod yX3_findCycle ∈ zwd := zmem (List.mem_append_right _ (List.mem_append_right _ (List.mem_append_right _ (List.mem_append_left _ (List.mem_of_getElem? (i := 212) rfl))))) rfl
theorem ksX3_findCycle : Cond.selects RX3 yX3_findCycle yX3_findCycle ∈ zwd := zmem (List.mem_append_left _ (List.mem_of_getElem? (i := 50) rfl)) rfl
theorem knX3_isSameAsFirst : Cond.instanceMethod yX3_isSameAsFirst ∈ zwd := zmem (List.mem_append_right _ (List.mem_append_right _ (List.mem_append_right _ (List.mem_append_left _ (List.mem_of_getElem? (i := 216) rfl))))) rfl
theorem ksX3_isSameAsFirst : Cond.selects RX3 yX3_isSameAsFirst yX3_isSameAsFirst ∈ zwd := zmem (List.mem_append_left _ (List.mem_of_getElem? (i := 51) rfl)) rfl
theorem knX3_cycleLength : Cond.instanceMethod yX3_cycleLength ∈ zwd := zmem (List.mem_append_right _ (List.mem_append_right _ (List.mem_append_right _ (List.mem_append_left _ (List.mem_of_getElem? (i := 219) rfl))))) rfl
theorem ksX3_cycleLength : Cond.selects RX3 yX3_cycleLength yX3_cycleLength ∈ zwd := zmem (List.mem_append_right _ (List.mem_append_right _ (List.mem_append_right _ (List.mem_append_left _ (List.mem_of_getElem? (i := 220) rfl))))) rfl
theorem knX3_cellAt : Cond.instanceMethod yX3_cellAt ∈ zwd := zmem (List.mem_append_right _ (List.mem_append_right _ (List.mem_append_right _ (List.mem_append_left _ (List.mem_of_getElem? (i := 223) rfl))))) rfl
theorem ksX3_cellAt : Cond.selects RX3 yX3_cellAt yX3_cellAt ∈ zwd := zmem (List.mem_append_right _ (List.mem_append_right _ (List.mem_append_right _ (List.mem_append_left _ (List.mem_of_getElem? (i := 224) rfl))))) rfl
theorem knX3_changedCells : Cond.instanceMethod yX3_changedCells ∈ zwd := zmem (List.mem_append_right _ (List.mem_append_right _ (List.mem_append_right _ (List.mem_append_left _ (List.mem_of_getElem? (i := 227) rfl))))) rfl
theorem ksX3_changedCells : Cond.selects RX3 yX3_changedCells yX3_changedCells ∈ zwd := zmem (List.mem_append_right _ (List.mem_append_right _ (List.mem_append_right _ (List.mem_append_left _ (List.mem_of_getElem? (i := 228) rfl))))) rfl
theorem knX3_pointerCount : Cond.instanceMethod yX3_pointerCount ∈ zwd := zmem (List.mem_append_right _ (List.mem_append_right _ (List.mem_append_right _ (List.mem_append_left _ (List.mem_of_getElem? (i := 231) rfl))))) rfl
theorem ksX3_pointerCount : Cond.selects RX3 yX3_pointerCount yX3_pointerCount ∈ zwd := zmem (List.mem_append_right _ (List.mem_append_right _ (List.mem_append_right _ (List.mem_append_left _ (List.mem_of_getElem? (i := 232) rfl))))) rfl
theorem knX3_pointerAt : Cond.instanceMethod yX3_pointerAt ∈ zwd := zmem (List.mem_append_right _ (List.mem_append_right _ (List.mem_append_right _ (List.mem_append_left _ (List.mem_of_getElem? (i := 235) rfl))))) rfl
theorem ksX3_pointerAt : Cond.selects RX3 yX3_pointerAt yX3_pointerAt ∈ zwd := zmem (List.mem_append_right _ (List.mem_append_right _ (List.mem_append_right _ (List.mem_append_left _ (List.mem_of_getElem? (i := 236) rfl))))) rfl
theorem knX3_isPointer : Cond.instanceMethod yX3_isPointer ∈ zwd := zmem (List.mem_append_right _ (List.mem_append_right _ (List.mem_append_right _ (List.mem_append_right _ (List.mem_of_getElem? (i := 0) rfl))))) rfl
theorem ksX3_isPointer : Cond.selects RX3 yX3_isPointer yX3_isPointer ∈ zwd := zmem (List.mem_append_left _ (List.mem_of_getElem? (i := 52) rfl)) rfl
theorem knX3_position : Cond.instanceMethod yX3_position ∈ zwd := zmem (List.mem_append_right _ (List.mem_append_right _ (List.mem_append_right _ (List.mem_append_right _ (List.mem_of_getElem? (i := 3) rfl))))) rfl
theorem ksX3_position : Cond.selects RX3 yX3_position yX3_position ∈ zwd := zmem (List.mem_append_right _ (List.mem_append_right _ (List.mem_append_right _ (List.mem_append_right _ (List.mem_of_getElem? (i := 4) rfl))))) rfl
theorem knX3_direction : Cond.instanceMethod yX3_direction ∈ zwd := zmem (List.mem_append_right _ (List.mem_append_right _ (List.mem_append_right _ (List.mem_append_right _ (List.mem_of_getElem? (i := 7) rfl))))) rfl
theorem ksX3_direction : Cond.selects RX3 yX3_direction yX3_direction ∈ zwd := zmem (List.mem_append_right _ (List.mem_append_right _ (List.mem_append_right _ (List.mem_append_right _ (List.mem_of_getElem? (i := 8) rfl))))) rfl
theorem knX3_status : Cond.instanceMethod yX3_status ∈ zwd := zmem (List.mem_append_right _ (List.mem_append_right _ (List.mem_append_right _ (List.mem_append_right _ (List.mem_of_getElem? (i := 11) rfl))))) rfl
theorem ksX3_status : Cond.selects RX3 yX3_status yX3_status ∈ zwd := zmem (List.mem_append_right _ (List.mem_append_right _ (List.mem_append_right _ (List.mem_append_right _ (List.mem_of_getElem? (i := 12) rfl))))) rfl
theorem knX3_sleep : Cond.instanceMethod yX3_sleep ∈ zwd := zmem (List.mem_append_right _ (List.mem_append_right _ (List.mem_append_right _ (List.mem_append_right _ (List.mem_of_getElem? (i := 15) rfl))))) rfl
theorem ksX3_sleep : Cond.selects RX3 yX3_sleep yX3_sleep ∈ zwd := zmem (List.mem_append_right _ (List.mem_append_right _ (List.mem_append_right _ (List.mem_append_right _ (List.mem_of_getElem? (i := 16) rfl))))) rfl
theorem knX3_stackCount : Cond.instanceMethod yX3_stackCount ∈ zwd := zmem (List.mem_append_right _ (List.mem_append_right _ (List.mem_append_right _ (List.mem_append_right _ (List.mem_of_getElem? (i := 19) rfl))))) rfl
theorem ksX3_stackCount : Cond.selects RX3 yX3_stackCount yX3_stackCount ∈ zwd := zmem (List.mem_append_right _ (List.mem_append_right _ (List.mem_append_right _ (List.mem_append_right _ (List.mem_of_getElem? (i := 20) rfl))))) rfl
theorem knX3_stackSize : Cond.instanceMethod yX3_stackSize ∈ zwd := zmem (List.mem_append_right _ (List.mem_append_right _ (List.mem_append_right _ (List.mem_append_right _ (List.mem_of_getElem? (i := 23) rfl))))) rfl
theorem ksX3_stackSize : Cond.selects RX3 yX3_stackSize yX3_stackSize ∈ zwd := zmem (List.mem_append_right _ (List.mem_append_right _ (List.mem_append_right _ (List.mem_append_right _ (List.mem_of_getElem? (i := 24) rfl))))) rfl
theorem knX3_isStack : Cond.instanceMethod yX3_isStack ∈ zwd := zmem (List.mem_append_right _ (List.mem_append_right _ (List.mem_append_right _ (List.mem_append_right _ (List.mem_of_getElem? (i := 28) rfl))))) rfl
theorem ksX3_isStack : Cond.selects RX3 yX3_isStack yX3_isStack ∈ zwd := zmem (List.mem_append_left _ (List.mem_of_getElem? (i := 53) rfl)) rfl
theorem knX3_valueAt : Cond.instanceMethod yX3_valueAt ∈ zwd := zmem (List.mem_append_right _ (List.mem_append_right _ (List.mem_append_right _ (List.mem_append_right _ (List.mem_of_getElem? (i := 31) rfl))))) rfl
theorem ksX3_valueAt : Cond.selects RX3 yX3_valueAt yX3_valueAt ∈ zwd := zmem (List.mem_append_right _ (List.mem_append_right _ (List.mem_append_right _ (List.mem_append_right _ (List.mem_of_getElem? (i := 32) rfl))))) rfl
theorem knX3_inputSize : Cond.instanceMethod yX3_inputSize ∈ zwd := zmem (List.mem_append_right _ (List.mem_append_right _ (List.mem_append_right _ (List.mem_append_right _ (List.mem_of_getElem? (i := 35) rfl))))) rfl
theorem ksX3_inputSize : Cond.selects RX3 yX3_inputSize yX3_inputSize ∈ zwd := zmem (List.mem_append_right _ (List.mem_append_right _ (List.mem_append_right _ (List.mem_append_right _ (List.mem_of_getElem? (i := 36) rfl))))) rfl
theorem knX3_outputSize : Cond.instanceMethod yX3_outputSize ∈ zwd := zmem (List.mem_append_right _ (List.mem_append_right _ (List.mem_append_right _ (List.mem_append_right _ (List.mem_of_getElem? (i := 39) rfl))))) rfl
theorem ksX3_outputSize : Cond.selects RX3 yX3_outputSize yX3_outputSize ∈ zwd := zmem (List.mem_append_right _ (List.mem_append_right _ (List.mem_append_right _ (List.mem_append_right _ (List.mem_of_getElem? (i := 40) rfl))))) rfl
theorem knX3_outputAt : Cond.instanceMethod yX3_outputAt ∈ zwd := zmem (List.mem_append_right _ (List.mem_append_right _ (List.mem_append_right _ (List.mem_append_right _ (List.mem_of_getElem? (i := 43) rfl))))) rfl
theorem ksX3_outputAt : Cond.selects RX3 yX3_outputAt yX3_outputAt ∈ zwd := zmem (List.mem_append_right _ (List.mem_append_right _ (List.mem_append_right _ (List.mem_append_right _ (List.mem_of_getElem? (i := 44) rfl))))) rfl
theorem knX3_outputTotal : Cond.instanceMethod yX3_outputTotal ∈ zwd := zmem (List.mem_append_right _ (List.mem_append_right _ (List.mem_append_right _ (List.mem_append_right _ (List.mem_of_getElem? (i := 47) rfl))))) rfl
theorem ksX3_outputTotal : Cond.selects RX3 yX3_outputTotal yX3_outputTotal ∈ zwd := zmem (List.mem_append_right _ (List.mem_append_right _ (List.mem_append_right _ (List.mem_append_right _ (List.mem_of_getElem? (i := 48) rfl))))) rfl
theorem knX3_tickCount : Cond.instanceMethod yX3_tickCount ∈ zwd := zmem (List.mem_append_right _ (List.mem_append_right _ (List.mem_append_right _ (List.mem_append_right _ (List.mem_of_getElem? (i := 51) rfl))))) rfl
theorem ksX3_tickCount : Cond.selects RX3 yX3_tickCount yX3_tickCount ∈ zwd := zmem (List.mem_append_right _ (List.mem_append_right _ (List.mem_append_right _ (List.mem_append_right _ (List.mem_of_getElem? (i := 52) rfl))))) rfl
theorem knX3_save : Cond.instanceMethod yX3_save ∈ zwd := zmem (List.mem_append_right _ (List.mem_append_right _ (List.mem_append_right _ (List.mem_append_right _ (List.mem_of_getElem? (i := 55) rfl))))) rfl
theorem ksX3_save : Cond.selects RX3 yX3_save yX3_save ∈ zwd := zmem (List.mem_append_right _ (List.mem_append_right _ (List.mem_append_right _ (List.mem_append_right _ (List.mem_of_getElem? (i := 56) rfl))))) rfl
theorem knX3_restore : Cond.instanceMethod yX3_restore ∈ zwd := zmem (List.mem_append_right _ (List.mem_append_right _ (List.mem_append_right _ (List.mem_append_right _ (List.mem_of_getElem? (i := 59) rfl))))) rfl
theorem ksX3_restore : Cond.selects RX3 yX3_restore yX3_restore ∈ zwd := zmem (List.mem_append_right _ (List.mem_append_right _ (List.mem_append_right _ (List.mem_append_right _ (List.mem_of_getElem? (i := 60) rfl))))) rfl
theorem knX3_undoDepth : Cond.instanceMethod yX3_undoDepth ∈ zwd := zmem (List.mem_append_right _ (List.mem_append_right _ (List.mem_append_right _ (List.mem_append_right _ (List.mem_of_getElem? (i := 63) rfl))))) rfl
theorem ksX3_undoDepth : Cond.selects RX3 yX3_undoDepth yX3_undoDepth ∈ zwd := zmem (List.mem_append_right _ (List.mem_append_right _ (List.mem_append_right _ (List.mem_append_right _ (List.mem_of_getElem? (i := 64) rfl))))) rfl
theorem clL_7 : Cond.classLink RL 7 RX2 ∈ zwd := zmem (List.mem_append_right _ (List.mem_append_left _ (List.mem_of_getElem? (i := 7) rfl))) rfl
theorem kjX2 : Cond.instantiable RX2 11 ∈ zwd := zmem (List.mem_append_right _ (List.mem_append_left _ (List.mem_of_getElem? (i := 8) rfl))) rfl
theorem mlL_9 : Cond.methodLink RL 9 yX2_init ∈ zwd := zmem (List.mem_append_right _ (List.mem_append_left _ (List.mem_of_getElem? (i := 9) rfl))) rfl
theorem mlX2_1 : Cond.methodLink RX2 1 objectInit ∈ zwd := zmem (List.mem_append_right _ (List.mem_append_left _ (List.mem_of_getElem? (i := 12) rfl))) rfl
theorem clX2_17 : Cond.classLink RX2 17 RX1 ∈ zwd := zmem (List.mem_append_right _ (List.mem_append_left _ (List.mem_of_getElem? (i := 15) rfl))) rfl
theorem kjX1 : Cond.instantiable RX1 11 ∈ zwd := zmem (List.mem_append_right _ (List.mem_append_left _ (List.mem_of_getElem? (i := 16) rfl))) rfl
theorem mlX2_19 : Cond.methodLink RX2 19 yX1_init ∈ zwd := zmem (List.mem_append_right _ (List.mem_append_left _ (List.mem_of_getElem? (i := 17) rfl))) rfl
theorem mlX1_3 : Cond.methodLink RX1 3 objectInit ∈ zwd := zmem (List.mem_append_right _ (List.mem_append_left _ (List.mem_of_getElem? (i := 20) rfl))) rfl
theorem clX1_18 : Cond.classLink RX1 18 RX0 ∈ zwd := zmem (List.mem_append_right _ (List.mem_append_left _ (List.mem_of_getElem? (i := 21) rfl))) rfl
theorem aoX0 : Cond.arrayOver (.object RX0) ∈ lw_tbl := (List.mem_append_right _ (List.mem_append_left _ (List.mem_of_getElem? (i := 22) rfl)))
theorem kjX0 : Cond.instantiable RX0 9 ∈ zwd := zmem (List.mem_append_right _ (List.mem_append_left _ (List.mem_of_getElem? (i := 23) rfl))) rfl
theorem nlX1_33 : Cond.methodLinkNest RX1 33 yX0_init RX2 ∈ lw_tbl := (List.mem_append_right _ (List.mem_append_left _ (List.mem_of_getElem? (i := 24) rfl)))
theorem mlX0_3 : Cond.methodLink RX0 3 objectInit ∈ zwd := zmem (List.mem_append_right _ (List.mem_append_left _ (List.mem_of_getElem? (i := 27) rfl))) rfl
theorem flX0_22 : zfl RX0 22 0 0 := ⟨_, _, _, rfl, by decide, zmem (List.mem_append_right _ (List.mem_append_left _ (List.mem_of_getElem? (i := 28) rfl))) rfl⟩
theorem flX0_25 : zfl RX0 25 0 1 := ⟨_, _, _, rfl, by decide, zmem (List.mem_append_right _ (List.mem_append_left _ (List.mem_of_getElem? (i := 29) rfl))) rfl⟩
theorem flX0_28 : zfl RX0 28 0 2 := ⟨_, _, _, rfl, by decide, zmem (List.mem_append_right _ (List.mem_append_left _ (List.mem_of_getElem? (i := 30) rfl))) rfl⟩
theorem flX2_134 : zfl RX2 134 0 2 := ⟨_, _, _, rfl, by decide, zmem (List.mem_append_right _ (List.mem_append_left _ (List.mem_of_getElem? (i := 31) rfl))) rfl⟩
theorem flX0_31 : zfl RX0 31 0 3 := ⟨_, _, _, rfl, by decide, zmem (List.mem_append_right _ (List.mem_append_left _ (List.mem_of_getElem? (i := 32) rfl))) rfl⟩
theorem flX1_67 : zfl RX1 67 0 3 := ⟨_, _, _, rfl, by decide, zmem (List.mem_append_right _ (List.mem_append_left _ (List.mem_of_getElem? (i := 33) rfl))) rfl⟩
theorem flX2_137 : zfl RX2 137 0 3 := ⟨_, _, _, rfl, by decide, zmem (List.mem_append_right _ (List.mem_append_left _ (List.mem_of_getElem? (i := 34) rfl))) rfl⟩
theorem flX0_34 : zfl RX0 34 0 4 := ⟨_, _, _, rfl, by decide, zmem (List.mem_append_right _ (List.mem_append_left _ (List.mem_of_getElem? (i := 35) rfl))) rfl⟩
theorem flX1_74 : zfl RX1 74 0 4 := ⟨_, _, _, rfl, by decide, zmem (List.mem_append_right _ (List.mem_append_left _ (List.mem_of_getElem? (i := 36) rfl))) rfl⟩
theorem flX2_140 : zfl RX2 140 0 4 := ⟨_, _, _, rfl, by decide, zmem (List.mem_append_right _ (List.mem_append_left _ (List.mem_of_getElem? (i := 37) rfl))) rfl⟩
theorem flX0_9 : zfl RX0 9 0 5 := ⟨_, _, _, rfl, by decide, zmem (List.mem_append_right _ (List.mem_append_left _ (List.mem_of_getElem? (i := 38) rfl))) rfl⟩
theorem flX2_152 : zfl RX2 152 0 5 := ⟨_, _, _, rfl, by decide, zmem (List.mem_append_right _ (List.mem_append_left _ (List.mem_of_getElem? (i := 39) rfl))) rfl⟩
theorem flX0_37 : zfl RX0 37 0 6 := ⟨_, _, _, rfl, by decide, zmem (List.mem_append_right _ (List.mem_append_left _ (List.mem_of_getElem? (i := 40) rfl))) rfl⟩
theorem flX0_15 : zfl RX0 15 0 7 := ⟨_, _, _, rfl, by decide, zmem (List.mem_append_right _ (List.mem_append_left _ (List.mem_of_getElem? (i := 41) rfl))) rfl⟩
theorem flX2_149 : zfl RX2 149 0 7 := ⟨_, _, _, rfl, by decide, zmem (List.mem_append_right _ (List.mem_append_left _ (List.mem_of_getElem? (i := 42) rfl))) rfl⟩
theorem flX0_18 : zfl RX0 18 0 8 := ⟨_, _, _, rfl, by decide, zmem (List.mem_append_right _ (List.mem_append_left _ (List.mem_of_getElem? (i := 43) rfl))) rfl⟩
theorem flX2_143 : zfl RX2 143 0 8 := ⟨_, _, _, rfl, by decide, zmem (List.mem_append_right _ (List.mem_append_left _ (List.mem_of_getElem? (i := 44) rfl))) rfl⟩
theorem ac_int : Cond.arrayClass .int ∈ zwd := zmem (List.mem_append_right _ (List.mem_append_left _ (List.mem_of_getElem? (i := 64) rfl))) rfl
theorem ac_boolean : Cond.arrayClass .boolean ∈ zwd := zmem (List.mem_append_right _ (List.mem_append_left _ (List.mem_of_getElem? (i := 65) rfl))) rfl
theorem flX1_9 : zfl RX1 9 1 0 := ⟨_, _, _, rfl, by decide, zmem (List.mem_append_right _ (List.mem_append_left _ (List.mem_of_getElem? (i := 66) rfl))) rfl⟩
theorem flX2_113 : zfl RX2 113 1 0 := ⟨_, _, _, rfl, by decide, zmem (List.mem_append_right _ (List.mem_append_left _ (List.mem_of_getElem? (i := 67) rfl))) rfl⟩
theorem flX1_15 : zfl RX1 15 1 1 := ⟨_, _, _, rfl, by decide, zmem (List.mem_append_right _ (List.mem_append_left _ (List.mem_of_getElem? (i := 68) rfl))) rfl⟩
theorem flX2_78 : zfl RX2 78 1 1 := ⟨_, _, _, rfl, by decide, zmem (List.mem_append_right _ (List.mem_append_left _ (List.mem_of_getElem? (i := 69) rfl))) rfl⟩
theorem flX1_20 : zfl RX1 20 1 2 := ⟨_, _, _, rfl, by decide, zmem (List.mem_append_right _ (List.mem_append_left _ (List.mem_of_getElem? (i := 70) rfl))) rfl⟩
theorem flX2_125 : zfl RX2 125 1 2 := ⟨_, _, _, rfl, by decide, zmem (List.mem_append_right _ (List.mem_append_left _ (List.mem_of_getElem? (i := 71) rfl))) rfl⟩
theorem flX1_24 : zfl RX1 24 1 3 := ⟨_, _, _, rfl, by decide, zmem (List.mem_append_right _ (List.mem_append_left _ (List.mem_of_getElem? (i := 72) rfl))) rfl⟩
theorem flX2_122 : zfl RX2 122 1 3 := ⟨_, _, _, rfl, by decide, zmem (List.mem_append_right _ (List.mem_append_left _ (List.mem_of_getElem? (i := 73) rfl))) rfl⟩
theorem flX1_34 : zfl RX1 34 1 4 := ⟨_, _, _, rfl, by decide, zmem (List.mem_append_right _ (List.mem_append_left _ (List.mem_of_getElem? (i := 74) rfl))) rfl⟩
theorem flX2_116 : zfl RX2 116 1 4 := ⟨_, _, _, rfl, by decide, zmem (List.mem_append_right _ (List.mem_append_left _ (List.mem_of_getElem? (i := 75) rfl))) rfl⟩
theorem flX1_27 : zfl RX1 27 1 5 := ⟨_, _, _, rfl, by decide, zmem (List.mem_append_right _ (List.mem_append_left _ (List.mem_of_getElem? (i := 76) rfl))) rfl⟩
theorem flX1_48 : zfl RX1 48 1 6 := ⟨_, _, _, rfl, by decide, zmem (List.mem_append_right _ (List.mem_append_left _ (List.mem_of_getElem? (i := 77) rfl))) rfl⟩
theorem flX2_54 : zfl RX2 54 1 6 := ⟨_, _, _, rfl, by decide, zmem (List.mem_append_right _ (List.mem_append_left _ (List.mem_of_getElem? (i := 78) rfl))) rfl⟩
theorem flX1_30 : zfl RX1 30 1 7 := ⟨_, _, _, rfl, by decide, zmem (List.mem_append_right _ (List.mem_append_left _ (List.mem_of_getElem? (i := 79) rfl))) rfl⟩
theorem flX2_161 : zfl RX2 161 1 7 := ⟨_, _, _, rfl, by decide, zmem (List.mem_append_right _ (List.mem_append_left _ (List.mem_of_getElem? (i := 80) rfl))) rfl⟩
theorem flX1_51 : zfl RX1 51 1 8 := ⟨_, _, _, rfl, by decide, zmem (List.mem_append_right _ (List.mem_append_left _ (List.mem_of_getElem? (i := 81) rfl))) rfl⟩
theorem flX2_158 : zfl RX2 158 1 8 := ⟨_, _, _, rfl, by decide, zmem (List.mem_append_right _ (List.mem_append_left _ (List.mem_of_getElem? (i := 82) rfl))) rfl⟩
theorem flX1_54 : zfl RX1 54 1 9 := ⟨_, _, _, rfl, by decide, zmem (List.mem_append_right _ (List.mem_append_left _ (List.mem_of_getElem? (i := 83) rfl))) rfl⟩
theorem flX2_164 : zfl RX2 164 1 9 := ⟨_, _, _, rfl, by decide, zmem (List.mem_append_right _ (List.mem_append_left _ (List.mem_of_getElem? (i := 84) rfl))) rfl⟩
theorem flX1_57 : zfl RX1 57 1 10 := ⟨_, _, _, rfl, by decide, zmem (List.mem_append_right _ (List.mem_append_left _ (List.mem_of_getElem? (i := 85) rfl))) rfl⟩
theorem flX2_63 : zfl RX2 63 1 10 := ⟨_, _, _, rfl, by decide, zmem (List.mem_append_right _ (List.mem_append_left _ (List.mem_of_getElem? (i := 86) rfl))) rfl⟩
theorem aoX1 : Cond.arrayOver (.object RX1) ∈ lw_tbl := (List.mem_append_right _ (List.mem_append_left _ (List.mem_of_getElem? (i := 110) rfl)))
theorem flX2_9 : zfl RX2 9 2 0 := ⟨_, _, _, rfl, by decide, zmem (List.mem_append_right _ (List.mem_append_left _ (List.mem_of_getElem? (i := 111) rfl))) rfl⟩
theorem flX2_40 : zfl RX2 40 2 1 := ⟨_, _, _, rfl, by decide, zmem (List.mem_append_right _ (List.mem_append_left _ (List.mem_of_getElem? (i := 112) rfl))) rfl⟩
theorem flX2_13 : zfl RX2 13 2 2 := ⟨_, _, _, rfl, by decide, zmem (List.mem_append_right _ (List.mem_append_left _ (List.mem_of_getElem? (i := 113) rfl))) rfl⟩
theorem flX2_85 : zfl RX2 85 2 3 := ⟨_, _, _, rfl, by decide, zmem (List.mem_append_right _ (List.mem_append_left _ (List.mem_of_getElem? (i := 114) rfl))) rfl⟩
theorem flX2_20 : zfl RX2 20 2 4 := ⟨_, _, _, rfl, by decide, zmem (List.mem_append_right _ (List.mem_append_left _ (List.mem_of_getElem? (i := 115) rfl))) rfl⟩
theorem flX2_24 : zfl RX2 24 2 5 := ⟨_, _, _, rfl, by decide, zmem (List.mem_append_right _ (List.mem_append_left _ (List.mem_of_getElem? (i := 116) rfl))) rfl⟩
theorem flX2_88 : zfl RX2 88 2 6 := ⟨_, _, _, rfl, by decide, zmem (List.mem_append_right _ (List.mem_append_left _ (List.mem_of_getElem? (i := 117) rfl))) rfl⟩
theorem flX2_28 : zfl RX2 28 2 7 := ⟨_, _, _, rfl, by decide, zmem (List.mem_append_right _ (List.mem_append_left _ (List.mem_of_getElem? (i := 118) rfl))) rfl⟩
theorem flX2_31 : zfl RX2 31 2 8 := ⟨_, _, _, rfl, by decide, zmem (List.mem_append_right _ (List.mem_append_left _ (List.mem_of_getElem? (i := 119) rfl))) rfl⟩
theorem flX2_34 : zfl RX2 34 2 9 := ⟨_, _, _, rfl, by decide, zmem (List.mem_append_right _ (List.mem_append_left _ (List.mem_of_getElem? (i := 120) rfl))) rfl⟩
theorem flX2_37 : zfl RX2 37 2 10 := ⟨_, _, _, rfl, by decide, zmem (List.mem_append_right _ (List.mem_append_left _ (List.mem_of_getElem? (i := 121) rfl))) rfl⟩
theorem mlL_13 : Cond.methodLink RL 13 yX2_append ∈ zwd := zmem (List.mem_append_right _ (List.mem_append_left _ (List.mem_of_getElem? (i := 145) rfl))) rfl
theorem mlL_18 : Cond.methodLink RL 18 yX2_clearText ∈ zwd := zmem (List.mem_append_right _ (List.mem_append_left _ (List.mem_of_getElem? (i := 149) rfl))) rfl
theorem mlL_23 : Cond.methodLink RL 23 yX2_load ∈ zwd := zmem (List.mem_append_right _ (List.mem_append_left _ (List.mem_of_getElem? (i := 153) rfl))) rfl
theorem mlX2_44 : Cond.methodLink RX2 44 yX2_errorPosition ∈ zwd := zmem (List.mem_append_right _ (List.mem_append_left _ (List.mem_of_getElem? (i := 157) rfl))) rfl
theorem mlX2_74 : Cond.methodLink RX2 74 yX2_isCode ∈ zwd := zmem (List.mem_append_right _ (List.mem_append_left _ (List.mem_of_getElem? (i := 161) rfl))) rfl
theorem mlX2_48 : Cond.methodLink RX2 48 yX2_keepForUndo ∈ zwd := zmem (List.mem_append_right _ (List.mem_append_left _ (List.mem_of_getElem? (i := 164) rfl))) rfl
theorem mlX2_91 : Cond.methodLink RX2 91 yX1_copyFrom ∈ zwd := zmem (List.mem_append_right _ (List.mem_append_left _ (List.mem_of_getElem? (i := 168) rfl))) rfl
theorem mlX1_38 : Cond.methodLink RX1 38 arraycopyName ∈ zwd := zmem (List.mem_append_right _ (List.mem_append_left _ (List.mem_of_getElem? (i := 172) rfl))) rfl
theorem kv_arraycopy : Cond.native arraycopyName ∈ zwd := zmem (List.mem_append_right _ (List.mem_append_left _ (List.mem_of_getElem? (i := 174) rfl))) rfl
theorem mlX1_44 : Cond.methodLink RX1 44 yX0_copyFrom ∈ zwd := zmem (List.mem_append_right _ (List.mem_append_left _ (List.mem_of_getElem? (i := 175) rfl))) rfl
theorem mlX0_40 : Cond.methodLink RX0 40 arraycopyName ∈ zwd := zmem (List.mem_append_right _ (List.mem_append_left _ (List.mem_of_getElem? (i := 179) rfl))) rfl
theorem mlX2_51 : Cond.methodLink RX2 51 yX2_readProgram ∈ zwd := zmem (List.mem_append_right _ (List.mem_append_left _ (List.mem_of_getElem? (i := 180) rfl))) rfl
theorem mlX2_70 : Cond.methodLink RX2 70 yX2_isCell ∈ zwd := zmem (List.mem_append_right _ (List.mem_append_left _ (List.mem_of_getElem? (i := 184) rfl))) rfl
theorem mlX2_57 : Cond.methodLink RX2 57 yX1_beginRun ∈ zwd := zmem (List.mem_append_right _ (List.mem_append_left _ (List.mem_of_getElem? (i := 187) rfl))) rfl
theorem mlX1_64 : Cond.methodLink RX1 64 yX0_reset ∈ zwd := zmem (List.mem_append_right _ (List.mem_append_left _ (List.mem_of_getElem? (i := 191) rfl))) rfl
theorem mlX2_60 : Cond.methodLink RX2 60 yX1_countFilledCells ∈ zwd := zmem (List.mem_append_right _ (List.mem_append_left _ (List.mem_of_getElem? (i := 195) rfl))) rfl
theorem mlL_27 : Cond.methodLink RL 27 yX2_rewind ∈ zwd := zmem (List.mem_append_right _ (List.mem_append_left _ (List.mem_of_getElem? (i := 199) rfl))) rfl
theorem mlL_31 : Cond.methodLink RL 31 yX2_feed ∈ zwd := zmem (List.mem_append_right _ (List.mem_append_left _ (List.mem_of_getElem? (i := 203) rfl))) rfl
theorem mlX2_66 : Cond.methodLink RX2 66 yX1_addInput ∈ zwd := zmem (List.mem_append_right _ (List.mem_append_left _ (List.mem_of_getElem? (i := 207) rfl))) rfl
theorem mlL_35 : Cond.methodLink RL 35 yX2_poke ∈ zwd := zmem (List.mem_append_right _ (List.mem_append_left _ (List.mem_of_getElem? (i := 211) rfl))) rfl
theorem mlL_40 : Cond.methodLink RL 40 yX2_tick ∈ zwd := zmem (List.mem_append_right _ (List.mem_append_left _ (List.mem_of_getElem? (i := 215) rfl))) rfl
theorem mlX2_81 : Cond.methodLink RX2 81 yX2_advance ∈ zwd := zmem (List.mem_append_right _ (List.mem_append_left _ (List.mem_of_getElem? (i := 219) rfl))) rfl
theorem mlX2_95 : Cond.methodLink RX2 95 yX2_isTickLimit ∈ zwd := zmem (List.mem_append_right _ (List.mem_append_left _ (List.mem_of_getElem? (i := 223) rfl))) rfl
theorem mlX2_98 : Cond.methodLink RX2 98 yX1_isHalted ∈ zwd := zmem (List.mem_append_right _ (List.mem_append_left _ (List.mem_of_getElem? (i := 226) rfl))) rfl
theorem mlX2_102 : Cond.methodLink RX2 102 yX1_performTick ∈ zwd := zmem (List.mem_append_right _ (List.mem_append_left _ (List.mem_of_getElem? (i := 230) rfl))) rfl
theorem mlX1_70 : Cond.methodLink RX1 70 yX1_takeTurn ∈ zwd := zmem (List.mem_append_right _ (List.mem_append_left _ (List.mem_of_getElem? (i := 234) rfl))) rfl
theorem mlX1_77 : Cond.methodLink RX1 77 yX0_cell ∈ zwd := zmem (List.mem_append_right _ (List.mem_append_left _ (List.mem_of_getElem? (i := 238) rfl))) rfl
theorem mlX1_81 : Cond.methodLink RX1 81 yX1_fetchCell ∈ zwd := zmem (List.mem_append_right _ (List.mem_append_right _ (List.mem_append_left _ (List.mem_of_getElem? (i := 2) rfl)))) rfl
theorem mlX1_87 : Cond.methodLink RX1 87 yX0_pop ∈ zwd := zmem (List.mem_append_right _ (List.mem_append_right _ (List.mem_append_left _ (List.mem_of_getElem? (i := 6) rfl)))) rfl
theorem mlX1_111 : Cond.methodLink RX1 111 yX1_wrappedCell ∈ zwd := zmem (List.mem_append_right _ (List.mem_append_right _ (List.mem_append_left _ (List.mem_of_getElem? (i := 10) rfl)))) rfl
theorem mlX1_105 : Cond.methodLink RX1 105 yJ9_floorMod_7cf53 ∈ zwd := zmem (List.mem_append_right _ (List.mem_append_right _ (List.mem_append_left _ (List.mem_of_getElem? (i := 13) rfl)))) rfl
theorem mlX1_114 : Cond.methodLink RX1 114 yX0_push ∈ zwd := zmem (List.mem_append_right _ (List.mem_append_right _ (List.mem_append_left _ (List.mem_of_getElem? (i := 16) rfl)))) rfl
theorem mlX1_84 : Cond.methodLink RX1 84 yX1_storeCell ∈ zwd := zmem (List.mem_append_right _ (List.mem_append_right _ (List.mem_append_left _ (List.mem_of_getElem? (i := 20) rfl)))) rfl
theorem nlX1_117 : Cond.methodLinkNest RX1 117 yX2_isCode RX2 ∈ lw_tbl := (List.mem_append_right _ (List.mem_append_right _ (List.mem_append_left _ (List.mem_of_getElem? (i := 24) rfl))))
theorem mlX1_90 : Cond.methodLink RX1 90 yX1_addOutput ∈ zwd := zmem (List.mem_append_right _ (List.mem_append_right _ (List.mem_append_left _ (List.mem_of_getElem? (i := 25) rfl)))) rfl
theorem mlX1_93 : Cond.methodLink RX1 93 yX1_takeInput ∈ zwd := zmem (List.mem_append_right _ (List.mem_append_right _ (List.mem_append_left _ (List.mem_of_getElem? (i := 29) rfl)))) rfl
theorem mlX1_121 : Cond.methodLink RX1 121 yX0_turn ∈ zwd := zmem (List.mem_append_right _ (List.mem_append_right _ (List.mem_append_left _ (List.mem_of_getElem? (i := 33) rfl)))) rfl
theorem mlX1_96 : Cond.methodLink RX1 96 yX1_split ∈ zwd := zmem (List.mem_append_right _ (List.mem_append_right _ (List.mem_append_left _ (List.mem_of_getElem? (i := 37) rfl)))) rfl
theorem mlX1_102 : Cond.methodLink RX1 102 yX0_step ∈ zwd := zmem (List.mem_append_right _ (List.mem_append_right _ (List.mem_append_left _ (List.mem_of_getElem? (i := 41) rfl)))) rfl
theorem mlX1_99 : Cond.methodLink RX1 99 yX0_perform ∈ zwd := zmem (List.mem_append_right _ (List.mem_append_right _ (List.mem_append_left _ (List.mem_of_getElem? (i := 45) rfl)))) rfl
theorem mlX0_46 : Cond.methodLink RX0 46 yX0_push ∈ zwd := zmem (List.mem_append_right _ (List.mem_append_right _ (List.mem_append_left _ (List.mem_of_getElem? (i := 49) rfl)))) rfl
theorem mlX0_50 : Cond.methodLink RX0 50 yX0_pop ∈ zwd := zmem (List.mem_append_right _ (List.mem_append_right _ (List.mem_append_left _ (List.mem_of_getElem? (i := 50) rfl)))) rfl
theorem mlX0_54 : Cond.methodLink RX0 54 yX0_combine ∈ zwd := zmem (List.mem_append_right _ (List.mem_append_right _ (List.mem_append_left _ (List.mem_of_getElem? (i := 51) rfl)))) rfl
theorem mlX0_58 : Cond.methodLink RX0 58 yX0_openStack ∈ zwd := zmem (List.mem_append_right _ (List.mem_append_right _ (List.mem_append_left _ (List.mem_of_getElem? (i := 54) rfl)))) rfl
theorem mlX0_82 : Cond.methodLink RX0 82 yX0_movable ∈ zwd := zmem (List.mem_append_right _ (List.mem_append_right _ (List.mem_append_left _ (List.mem_of_getElem? (i := 58) rfl)))) rfl
theorem mlX0_61 : Cond.methodLink RX0 61 yX0_closeStack ∈ zwd := zmem (List.mem_append_right _ (List.mem_append_right _ (List.mem_append_left _ (List.mem_of_getElem? (i := 62) rfl)))) rfl
theorem mlX0_76 : Cond.methodLink RX0 76 yX0_turn ∈ zwd := zmem (List.mem_append_right _ (List.mem_append_right _ (List.mem_append_left _ (List.mem_of_getElem? (i := 66) rfl)))) rfl
theorem mlX0_64 : Cond.methodLink RX0 64 yJ9_min_7cf53 ∈ zwd := zmem (List.mem_append_right _ (List.mem_append_right _ (List.mem_append_left _ (List.mem_of_getElem? (i := 67) rfl)))) rfl
theorem mlX0_70 : Cond.methodLink RX0 70 yJ9_max_7cf53 ∈ zwd := zmem (List.mem_append_right _ (List.mem_append_right _ (List.mem_append_left _ (List.mem_of_getElem? (i := 70) rfl)))) rfl
theorem mlX0_73 : Cond.methodLink RX0 73 yX0_steer ∈ zwd := zmem (List.mem_append_right _ (List.mem_append_right _ (List.mem_append_left _ (List.mem_of_getElem? (i := 73) rfl)))) rfl
theorem mlX0_79 : Cond.methodLink RX0 79 yX0_step ∈ zwd := zmem (List.mem_append_right _ (List.mem_append_right _ (List.mem_append_left _ (List.mem_of_getElem? (i := 77) rfl)))) rfl
theorem mlX2_167 : Cond.methodLink RX2 167 yX2_atBreakpoint ∈ zwd := zmem (List.mem_append_right _ (List.mem_append_right _ (List.mem_append_left _ (List.mem_of_getElem? (i := 78) rfl)))) rfl
theorem mlX2_129 : Cond.methodLink RX2 129 yX0_cell ∈ zwd := zmem (List.mem_append_right _ (List.mem_append_right _ (List.mem_append_left _ (List.mem_of_getElem? (i := 82) rfl)))) rfl
theorem mlL_44 : Cond.methodLink RL 44 yX2_run ∈ zwd := zmem (List.mem_append_right _ (List.mem_append_right _ (List.mem_append_left _ (List.mem_of_getElem? (i := 83) rfl)))) rfl
theorem mlL_48 : Cond.methodLink RL 48 yX2_setBreakpoint ∈ zwd := zmem (List.mem_append_right _ (List.mem_append_right _ (List.mem_append_left _ (List.mem_of_getElem? (i := 87) rfl)))) rfl
theorem mlL_52 : Cond.methodLink RL 52 yX2_undo ∈ zwd := zmem (List.mem_append_right _ (List.mem_append_right _ (List.mem_append_left _ (List.mem_of_getElem? (i := 91) rfl)))) rfl
theorem mlL_56 : Cond.methodLink RL 56 yX2_ticksToHalt ∈ zwd := zmem (List.mem_append_right _ (List.mem_append_right _ (List.mem_append_left _ (List.mem_of_getElem? (i := 95) rfl)))) rfl
theorem mlL_60 : Cond.methodLink RL 60 yX2_cycleStart ∈ zwd := zmem (List.mem_append_right _ (List.mem_append_right _ (List.mem_append_left _ (List.mem_of_getElem? (i := 99) rfl)))) rfl
theorem mlX2_105 : Cond.methodLink RX2 105 yX2_findPeriod ∈ zwd := zmem (List.mem_append_right _ (List.mem_append_right _ (List.mem_append_left _ (List.mem_of_getElem? (i := 103) rfl)))) rfl
theorem mlX2_170 : Cond.methodLink RX2 170 yX1_hasConfigurationOf ∈ zwd := zmem (List.mem_append_right _ (List.mem_append_right _ (List.mem_append_left _ (List.mem_of_getElem? (i := 107) rfl)))) rfl
theorem mlX1_60 : Cond.methodLink RX1 60 yX0_isLike ∈ zwd := zmem (List.mem_append_right _ (List.mem_append_right _ (List.mem_append_left _ (List.mem_of_getElem? (i := 111) rfl)))) rfl
theorem mlX2_109 : Cond.methodLink RX2 109 yX2_findCycleEntry ∈ zwd := zmem (List.mem_append_right _ (List.mem_append_right _ (List.mem_append_left _ (List.mem_of_getElem? (i := 115) rfl)))) rfl
theorem mlL_64 : Cond.methodLink RL 64 yX2_cycleLength ∈ zwd := zmem (List.mem_append_right _ (List.mem_append_right _ (List.mem_append_left _ (List.mem_of_getElem? (i := 119) rfl)))) rfl
theorem mlL_68 : Cond.methodLink RL 68 yX2_cellAt ∈ zwd := zmem (List.mem_append_right _ (List.mem_append_right _ (List.mem_append_left _ (List.mem_of_getElem? (i := 123) rfl)))) rfl
theorem mlL_73 : Cond.methodLink RL 73 yX2_changedCells ∈ zwd := zmem (List.mem_append_right _ (List.mem_append_right _ (List.mem_append_left _ (List.mem_of_getElem? (i := 127) rfl)))) rfl
theorem mlL_77 : Cond.methodLink RL 77 yX2_pointerCount ∈ zwd := zmem (List.mem_append_right _ (List.mem_append_right _ (List.mem_append_left _ (List.mem_of_getElem? (i := 131) rfl)))) rfl
theorem mlL_81 : Cond.methodLink RL 81 yX2_pointerAt ∈ zwd := zmem (List.mem_append_right _ (List.mem_append_right _ (List.mem_append_left _ (List.mem_of_getElem? (i := 135) rfl)))) rfl
theorem mlX2_119 : Cond.methodLink RX2 119 yX2_isPointer ∈ zwd := zmem (List.mem_append_right _ (List.mem_append_right _ (List.mem_append_left _ (List.mem_of_getElem? (i := 139) rfl)))) rfl
theorem mlL_85 : Cond.methodLink RL 85 yX2_position ∈ zwd := zmem (List.mem_append_right _ (List.mem_append_right _ (List.mem_append_left _ (List.mem_of_getElem? (i := 143) rfl)))) rfl
theorem mlL_89 : Cond.methodLink RL 89 yX2_direction ∈ zwd := zmem (List.mem_append_right _ (List.mem_append_right _ (List.mem_append_left _ (List.mem_of_getElem? (i := 147) rfl)))) rfl
theorem mlL_93 : Cond.methodLink RL 93 yX2_status ∈ zwd := zmem (List.mem_append_right _ (List.mem_append_right _ (List.mem_append_left _ (List.mem_of_getElem? (i := 151) rfl)))) rfl
theorem mlL_97 : Cond.methodLink RL 97 yX2_sleep ∈ zwd := zmem (List.mem_append_right _ (List.mem_append_right _ (List.mem_append_left _ (List.mem_of_getElem? (i := 155) rfl)))) rfl
theorem mlL_101 : Cond.methodLink RL 101 yX2_stackCount ∈ zwd := zmem (List.mem_append_right _ (List.mem_append_right _ (List.mem_append_left _ (List.mem_of_getElem? (i := 159) rfl)))) rfl
theorem mlL_105 : Cond.methodLink RL 105 yX2_stackSize ∈ zwd := zmem (List.mem_append_right _ (List.mem_append_right _ (List.mem_append_left _ (List.mem_of_getElem? (i := 163) rfl)))) rfl
theorem mlX2_146 : Cond.methodLink RX2 146 yX2_isStack ∈ zwd := zmem (List.mem_append_right _ (List.mem_append_right _ (List.mem_append_left _ (List.mem_of_getElem? (i := 167) rfl)))) rfl
theorem mlL_109 : Cond.methodLink RL 109 yX2_valueAt ∈ zwd := zmem (List.mem_append_right _ (List.mem_append_right _ (List.mem_append_left _ (List.mem_of_getElem? (i := 171) rfl)))) rfl
theorem mlX2_155 : Cond.methodLink RX2 155 yX0_stackBegin ∈ zwd := zmem (List.mem_append_right _ (List.mem_append_right _ (List.mem_append_left _ (List.mem_of_getElem? (i := 175) rfl)))) rfl
theorem mlL_113 : Cond.methodLink RL 113 yX2_inputSize ∈ zwd := zmem (List.mem_append_right _ (List.mem_append_right _ (List.mem_append_left _ (List.mem_of_getElem? (i := 179) rfl)))) rfl
theorem mlL_117 : Cond.methodLink RL 117 yX2_outputSize ∈ zwd := zmem (List.mem_append_right _ (List.mem_append_right _ (List.mem_append_left _ (List.mem_of_getElem? (i := 183) rfl)))) rfl
theorem mlL_121 : Cond.methodLink RL 121 yX2_outputAt ∈ zwd := zmem (List.mem_append_right _ (List.mem_append_right _ (List.mem_append_left _ (List.mem_of_getElem? (i := 187) rfl)))) rfl
theorem mlL_125 : Cond.methodLink RL 125 yX2_outputTotal ∈ zwd := zmem (List.mem_append_right _ (List.mem_append_right _ (List.mem_append_left _ (List.mem_of_getElem? (i := 191) rfl)))) rfl
theorem mlL_129 : Cond.methodLink RL 129 yX2_tickCount ∈ zwd := zmem (List.mem_append_right _ (List.mem_append_right _ (List.mem_append_left _ (List.mem_of_getElem? (i := 195) rfl)))) rfl
theorem mlL_133 : Cond.methodLink RL 133 yX2_save ∈ zwd := zmem (List.mem_append_right _ (List.mem_append_right _ (List.mem_append_left _ (List.mem_of_getElem? (i := 199) rfl)))) rfl
theorem mlL_137 : Cond.methodLink RL 137 yX2_restore ∈ zwd := zmem (List.mem_append_right _ (List.mem_append_right _ (List.mem_append_left _ (List.mem_of_getElem? (i := 203) rfl)))) rfl
theorem mlL_141 : Cond.methodLink RL 141 yX2_undoDepth ∈ zwd := zmem (List.mem_append_right _ (List.mem_append_right _ (List.mem_append_left _ (List.mem_of_getElem? (i := 207) rfl)))) rfl
theorem clL_10 : Cond.classLink RL 10 RX3 ∈ zwd := zmem (List.mem_append_right _ (List.mem_append_right _ (List.mem_append_left _ (List.mem_of_getElem? (i := 211) rfl)))) rfl
theorem kjX3 : Cond.instantiable RX3 14 ∈ zwd := zmem (List.mem_append_right _ (List.mem_append_right _ (List.mem_append_left _ (List.mem_of_getElem? (i := 212) rfl)))) rfl
theorem mlL_12 : Cond.methodLink RL 12 yX3_init ∈ zwd := zmem (List.mem_append_right _ (List.mem_append_right _ (List.mem_append_left _ (List.mem_of_getElem? (i := 213) rfl)))) rfl
theorem mlX3_1 : Cond.methodLink RX3 1 objectInit ∈ zwd := zmem (List.mem_append_right _ (List.mem_append_right _ (List.mem_append_left _ (List.mem_of_getElem? (i := 216) rfl)))) rfl
theorem mlX3_41 : Cond.methodLink RX3 41 yX3_begin ∈ zwd := zmem (List.mem_append_right _ (List.mem_append_right _ (List.mem_append_left _ (List.mem_of_getElem? (i := 217) rfl)))) rfl
theorem flX3_7 : zfl RX3 7 3 0 := ⟨_, _, _, rfl, by decide, zmem (List.mem_append_right _ (List.mem_append_right _ (List.mem_append_left _ (List.mem_of_getElem? (i := 221) rfl)))) rfl⟩
theorem flX3_13 : zfl RX3 13 3 1 := ⟨_, _, _, rfl, by decide, zmem (List.mem_append_right _ (List.mem_append_right _ (List.mem_append_left _ (List.mem_of_getElem? (i := 222) rfl)))) rfl⟩
theorem flX3_16 : zfl RX3 16 3 2 := ⟨_, _, _, rfl, by decide, zmem (List.mem_append_right _ (List.mem_append_right _ (List.mem_append_left _ (List.mem_of_getElem? (i := 223) rfl)))) rfl⟩
theorem flX3_19 : zfl RX3 19 3 3 := ⟨_, _, _, rfl, by decide, zmem (List.mem_append_right _ (List.mem_append_right _ (List.mem_append_left _ (List.mem_of_getElem? (i := 224) rfl)))) rfl⟩
theorem flX3_22 : zfl RX3 22 3 4 := ⟨_, _, _, rfl, by decide, zmem (List.mem_append_right _ (List.mem_append_right _ (List.mem_append_left _ (List.mem_of_getElem? (i := 225) rfl)))) rfl⟩
theorem flX3_48 : zfl RX3 48 3 5 := ⟨_, _, _, rfl, by decide, zmem (List.mem_append_right _ (List.mem_append_right _ (List.mem_append_left _ (List.mem_of_getElem? (i := 226) rfl)))) rfl⟩
theorem flX3_25 : zfl RX3 25 3 6 := ⟨_, _, _, rfl, by decide, zmem (List.mem_append_right _ (List.mem_append_right _ (List.mem_append_left _ (List.mem_of_getElem? (i := 227) rfl)))) rfl⟩
theorem flX3_28 : zfl RX3 28 3 7 := ⟨_, _, _, rfl, by decide, zmem (List.mem_append_right _ (List.mem_append_right _ (List.mem_append_left _ (List.mem_of_getElem? (i := 228) rfl)))) rfl⟩
theorem flX3_32 : zfl RX3 32 3 8 := ⟨_, _, _, rfl, by decide, zmem (List.mem_append_right _ (List.mem_append_right _ (List.mem_append_left _ (List.mem_of_getElem? (i := 229) rfl)))) rfl⟩
theorem flX3_35 : zfl RX3 35 3 9 := ⟨_, _, _, rfl, by decide, zmem (List.mem_append_right _ (List.mem_append_right _ (List.mem_append_left _ (List.mem_of_getElem? (i := 230) rfl)))) rfl⟩
theorem flX3_52 : zfl RX3 52 3 10 := ⟨_, _, _, rfl, by decide, zmem (List.mem_append_right _ (List.mem_append_right _ (List.mem_append_left _ (List.mem_of_getElem? (i := 231) rfl)))) rfl⟩
theorem flX3_38 : zfl RX3 38 3 11 := ⟨_, _, _, rfl, by decide, zmem (List.mem_append_right _ (List.mem_append_right _ (List.mem_append_left _ (List.mem_of_getElem? (i := 232) rfl)))) rfl⟩
theorem flX3_170 : zfl RX3 170 3 12 := ⟨_, _, _, rfl, by decide, zmem (List.mem_append_right _ (List.mem_append_right _ (List.mem_append_left _ (List.mem_of_getElem? (i := 233) rfl)))) rfl⟩
theorem flX3_173 : zfl RX3 173 3 13 := ⟨_, _, _, rfl, by decide, zmem (List.mem_append_right _ (List.mem_append_right _ (List.mem_append_left _ (List.mem_of_getElem? (i := 234) rfl)))) rfl⟩
theorem mlL_55 : Cond.methodLink RL 55 yX3_undo ∈ zwd := zmem (List.mem_append_right _ (List.mem_append_right _ (List.mem_append_right _ (List.mem_append_left _ (List.mem_of_getElem? (i := 24) rfl))))) rfl
theorem mlL_17 : Cond.methodLink RL 17 yX3_append ∈ zwd := zmem (List.mem_append_right _ (List.mem_append_right _ (List.mem_append_right _ (List.mem_append_left _ (List.mem_of_getElem? (i := 28) rfl))))) rfl
theorem mlX3_44 : Cond.methodLink RX3 44 yX3_in ∈ zwd := zmem (List.mem_append_right _ (List.mem_append_right _ (List.mem_append_right _ (List.mem_append_left _ (List.mem_of_getElem? (i := 32) rfl))))) rfl
theorem mlL_22 : Cond.methodLink RL 22 yX3_clearText ∈ zwd := zmem (List.mem_append_right _ (List.mem_append_right _ (List.mem_append_right _ (List.mem_append_left _ (List.mem_of_getElem? (i := 35) rfl))))) rfl
theorem mlL_26 : Cond.methodLink RL 26 yX3_load ∈ zwd := zmem (List.mem_append_right _ (List.mem_append_right _ (List.mem_append_right _ (List.mem_append_left _ (List.mem_of_getElem? (i := 39) rfl))))) rfl
theorem mlX3_55 : Cond.methodLink RX3 55 yX3_errorPosition ∈ zwd := zmem (List.mem_append_right _ (List.mem_append_right _ (List.mem_append_right _ (List.mem_append_left _ (List.mem_of_getElem? (i := 43) rfl))))) rfl
theorem mlX3_59 : Cond.methodLink RX3 59 yX3_remember ∈ zwd := zmem (List.mem_append_right _ (List.mem_append_right _ (List.mem_append_right _ (List.mem_append_left _ (List.mem_of_getElem? (i := 47) rfl))))) rfl
theorem mlX3_62 : Cond.methodLink RX3 62 yX3_saveBefore ∈ zwd := zmem (List.mem_append_right _ (List.mem_append_right _ (List.mem_append_right _ (List.mem_append_left _ (List.mem_of_getElem? (i := 51) rfl))))) rfl
theorem mlL_30 : Cond.methodLink RL 30 yX3_rewind ∈ zwd := zmem (List.mem_append_right _ (List.mem_append_right _ (List.mem_append_right _ (List.mem_append_left _ (List.mem_of_getElem? (i := 55) rfl))))) rfl
theorem mlL_34 : Cond.methodLink RL 34 yX3_feed ∈ zwd := zmem (List.mem_append_right _ (List.mem_append_right _ (List.mem_append_right _ (List.mem_append_left _ (List.mem_of_getElem? (i := 59) rfl))))) rfl
theorem mlL_39 : Cond.methodLink RL 39 yX3_poke ∈ zwd := zmem (List.mem_append_right _ (List.mem_append_right _ (List.mem_append_right _ (List.mem_append_left _ (List.mem_of_getElem? (i := 63) rfl))))) rfl
theorem mlX3_65 : Cond.methodLink RX3 65 yX3_isCell ∈ zwd := zmem (List.mem_append_right _ (List.mem_append_right _ (List.mem_append_right _ (List.mem_append_left _ (List.mem_of_getElem? (i := 67) rfl))))) rfl
theorem mlL_43 : Cond.methodLink RL 43 yX3_tick ∈ zwd := zmem (List.mem_append_right _ (List.mem_append_right _ (List.mem_append_right _ (List.mem_append_left _ (List.mem_of_getElem? (i := 70) rfl))))) rfl
theorem mlX3_154 : Cond.methodLink RX3 154 yX3_perform ∈ zwd := zmem (List.mem_append_right _ (List.mem_append_right _ (List.mem_append_right _ (List.mem_append_left _ (List.mem_of_getElem? (i := 74) rfl))))) rfl
theorem mlX3_144 : Cond.methodLink RX3 144 yX3_isHalted ∈ zwd := zmem (List.mem_append_right _ (List.mem_append_right _ (List.mem_append_right _ (List.mem_append_left _ (List.mem_of_getElem? (i := 78) rfl))))) rfl
theorem mlX3_69 : Cond.methodLink RX3 69 yX3_of ∈ zwd := zmem (List.mem_append_right _ (List.mem_append_right _ (List.mem_append_right _ (List.mem_append_left _ (List.mem_of_getElem? (i := 82) rfl))))) rfl
theorem mlX3_148 : Cond.methodLink RX3 148 yX3_step ∈ zwd := zmem (List.mem_append_right _ (List.mem_append_right _ (List.mem_append_right _ (List.mem_append_left _ (List.mem_of_getElem? (i := 86) rfl))))) rfl
theorem mlX3_141 : Cond.methodLink RX3 141 yX3_takeTurn ∈ zwd := zmem (List.mem_append_right _ (List.mem_append_right _ (List.mem_append_right _ (List.mem_append_left _ (List.mem_of_getElem? (i := 90) rfl))))) rfl
theorem mlX3_80 : Cond.methodLink RX3 80 yX3_put ∈ zwd := zmem (List.mem_append_right _ (List.mem_append_right _ (List.mem_append_right _ (List.mem_append_left _ (List.mem_of_getElem? (i := 94) rfl))))) rfl
theorem mlX3_138 : Cond.methodLink RX3 138 yX3_execute ∈ zwd := zmem (List.mem_append_right _ (List.mem_append_right _ (List.mem_append_right _ (List.mem_append_left _ (List.mem_of_getElem? (i := 98) rfl))))) rfl
theorem mlX3_97 : Cond.methodLink RX3 97 yX3_push ∈ zwd := zmem (List.mem_append_right _ (List.mem_append_right _ (List.mem_append_right _ (List.mem_append_left _ (List.mem_of_getElem? (i := 102) rfl))))) rfl
theorem mlX3_77 : Cond.methodLink RX3 77 yX3_heldBy ∈ zwd := zmem (List.mem_append_right _ (List.mem_append_right _ (List.mem_append_right _ (List.mem_append_left _ (List.mem_of_getElem? (i := 106) rfl))))) rfl
theorem mlX3_73 : Cond.methodLink RX3 73 yX3_current ∈ zwd := zmem (List.mem_append_right _ (List.mem_append_right _ (List.mem_append_right _ (List.mem_append_left _ (List.mem_of_getElem? (i := 110) rfl))))) rfl
theorem mlX3_87 : Cond.methodLink RX3 87 yX3_pop ∈ zwd := zmem (List.mem_append_right _ (List.mem_append_right _ (List.mem_append_right _ (List.mem_append_left _ (List.mem_of_getElem? (i := 114) rfl))))) rfl
theorem mlX3_107 : Cond.methodLink RX3 107 yX3_operate ∈ zwd := zmem (List.mem_append_right _ (List.mem_append_right _ (List.mem_append_right _ (List.mem_append_left _ (List.mem_of_getElem? (i := 118) rfl))))) rfl
theorem mlX3_111 : Cond.methodLink RX3 111 yX3_duplicate ∈ zwd := zmem (List.mem_append_right _ (List.mem_append_right _ (List.mem_append_right _ (List.mem_append_left _ (List.mem_of_getElem? (i := 121) rfl))))) rfl
theorem mlX3_114 : Cond.methodLink RX3 114 yX3_swapTop ∈ zwd := zmem (List.mem_append_right _ (List.mem_append_right _ (List.mem_append_right _ (List.mem_append_left _ (List.mem_of_getElem? (i := 125) rfl))))) rfl
theorem mlX3_93 : Cond.methodLink RX3 93 yX3_turn ∈ zwd := zmem (List.mem_append_right _ (List.mem_append_right _ (List.mem_append_right _ (List.mem_append_left _ (List.mem_of_getElem? (i := 129) rfl))))) rfl
theorem mlX3_100 : Cond.methodLink RX3 100 yX3_move ∈ zwd := zmem (List.mem_append_right _ (List.mem_append_right _ (List.mem_append_right _ (List.mem_append_left _ (List.mem_of_getElem? (i := 133) rfl))))) rfl
theorem mlX3_117 : Cond.methodLink RX3 117 yX3_fetch ∈ zwd := zmem (List.mem_append_right _ (List.mem_append_right _ (List.mem_append_right _ (List.mem_append_left _ (List.mem_of_getElem? (i := 137) rfl))))) rfl
theorem mlX3_104 : Cond.methodLink RX3 104 yX3_cell ∈ zwd := zmem (List.mem_append_right _ (List.mem_append_right _ (List.mem_append_right _ (List.mem_append_left _ (List.mem_of_getElem? (i := 141) rfl))))) rfl
theorem mlX3_84 : Cond.methodLink RX3 84 yX3_modulo ∈ zwd := zmem (List.mem_append_right _ (List.mem_append_right _ (List.mem_append_right _ (List.mem_append_left _ (List.mem_of_getElem? (i := 144) rfl))))) rfl
theorem mlX3_120 : Cond.methodLink RX3 120 yX3_store ∈ zwd := zmem (List.mem_append_right _ (List.mem_append_right _ (List.mem_append_right _ (List.mem_append_left _ (List.mem_of_getElem? (i := 147) rfl))))) rfl
theorem mlX3_123 : Cond.methodLink RX3 123 yX3_output ∈ zwd := zmem (List.mem_append_right _ (List.mem_append_right _ (List.mem_append_right _ (List.mem_append_left _ (List.mem_of_getElem? (i := 151) rfl))))) rfl
theorem mlX3_126 : Cond.methodLink RX3 126 yX3_input ∈ zwd := zmem (List.mem_append_right _ (List.mem_append_right _ (List.mem_append_right _ (List.mem_append_left _ (List.mem_of_getElem? (i := 155) rfl))))) rfl
theorem mlX3_90 : Cond.methodLink RX3 90 yX3_clamp ∈ zwd := zmem (List.mem_append_right _ (List.mem_append_right _ (List.mem_append_right _ (List.mem_append_left _ (List.mem_of_getElem? (i := 159) rfl))))) rfl
theorem mlX3_129 : Cond.methodLink RX3 129 yX3_split ∈ zwd := zmem (List.mem_append_right _ (List.mem_append_right _ (List.mem_append_right _ (List.mem_append_left _ (List.mem_of_getElem? (i := 162) rfl))))) rfl
theorem mlX3_132 : Cond.methodLink RX3 132 yX3_openStack ∈ zwd := zmem (List.mem_append_right _ (List.mem_append_right _ (List.mem_append_right _ (List.mem_append_left _ (List.mem_of_getElem? (i := 166) rfl))))) rfl
theorem mlX3_135 : Cond.methodLink RX3 135 yX3_closeStack ∈ zwd := zmem (List.mem_append_right _ (List.mem_append_right _ (List.mem_append_right _ (List.mem_append_left _ (List.mem_of_getElem? (i := 170) rfl))))) rfl
theorem mlX3_151 : Cond.methodLink RX3 151 yX3_isAtBreakpoint ∈ zwd := zmem (List.mem_append_right _ (List.mem_append_right _ (List.mem_append_right _ (List.mem_append_left _ (List.mem_of_getElem? (i := 174) rfl))))) rfl
theorem mlL_47 : Cond.methodLink RL 47 yX3_run ∈ zwd := zmem (List.mem_append_right _ (List.mem_append_right _ (List.mem_append_right _ (List.mem_append_left _ (List.mem_of_getElem? (i := 178) rfl))))) rfl
theorem mlL_51 : Cond.methodLink RL 51 yX3_setBreakpoint ∈ zwd := zmem (List.mem_append_right _ (List.mem_append_right _ (List.mem_append_right _ (List.mem_append_left _ (List.mem_of_getElem? (i := 182) rfl))))) rfl
theorem mlX3_158 : Cond.methodLink RX3 158 yX3_breakpoints ∈ zwd := zmem (List.mem_append_right _ (List.mem_append_right _ (List.mem_append_right _ (List.mem_append_left _ (List.mem_of_getElem? (i := 186) rfl))))) rfl
theorem mlL_59 : Cond.methodLink RL 59 yX3_ticksToHalt ∈ zwd := zmem (List.mem_append_right _ (List.mem_append_right _ (List.mem_append_right _ (List.mem_append_left _ (List.mem_of_getElem? (i := 190) rfl))))) rfl
theorem mlX3_167 : Cond.methodLink RX3 167 yX3_halts ∈ zwd := zmem (List.mem_append_right _ (List.mem_append_right _ (List.mem_append_right _ (List.mem_append_left _ (List.mem_of_getElem? (i := 194) rfl))))) rfl
theorem mlX3_161 : Cond.methodLink RX3 161 yX3_setAside ∈ zwd := zmem (List.mem_append_right _ (List.mem_append_right _ (List.mem_append_right _ (List.mem_append_left _ (List.mem_of_getElem? (i := 198) rfl))))) rfl
theorem mlX3_164 : Cond.methodLink RX3 164 yX3_takeBack ∈ zwd := zmem (List.mem_append_right _ (List.mem_append_right _ (List.mem_append_right _ (List.mem_append_left _ (List.mem_of_getElem? (i := 202) rfl))))) rfl
theorem mlL_63 : Cond.methodLink RL 63 yX3_cycleStart ∈ zwd := zmem (List.mem_append_right _ (List.mem_append_right _ (List.mem_append_right _ (List.mem_append_left _ (List.mem_of_getElem? (i := 206) rfl))))) rfl
theorem mlX3_179 : Cond.methodLink RX3 179 yX3_findCycle ∈ zwd := zmem (List.mem_append_right _ (List.mem_append_right _ (List.mem_append_right _ (List.mem_append_left _ (List.mem_of_getElem? (i := 210) rfl))))) rfl
theorem mlX3_176 : Cond.methodLink RX3 176 yX3_isSameAsFirst ∈ zwd := zmem (List.mem_append_right _ (List.mem_append_right _ (List.mem_append_right _ (List.mem_append_left _ (List.mem_of_getElem? (i := 214) rfl))))) rfl
theorem mlL_67 : Cond.methodLink RL 67 yX3_cycleLength ∈ zwd := zmem (List.mem_append_right _ (List.mem_append_right _ (List.mem_append_right _ (List.mem_append_left _ (List.mem_of_getElem? (i := 218) rfl))))) rfl
theorem mlL_72 : Cond.methodLink RL 72 yX3_cellAt ∈ zwd := zmem (List.mem_append_right _ (List.mem_append_right _ (List.mem_append_right _ (List.mem_append_left _ (List.mem_of_getElem? (i := 222) rfl))))) rfl
theorem mlL_76 : Cond.methodLink RL 76 yX3_changedCells ∈ zwd := zmem (List.mem_append_right _ (List.mem_append_right _ (List.mem_append_right _ (List.mem_append_left _ (List.mem_of_getElem? (i := 226) rfl))))) rfl
theorem mlL_80 : Cond.methodLink RL 80 yX3_pointerCount ∈ zwd := zmem (List.mem_append_right _ (List.mem_append_right _ (List.mem_append_right _ (List.mem_append_left _ (List.mem_of_getElem? (i := 230) rfl))))) rfl
theorem mlL_84 : Cond.methodLink RL 84 yX3_pointerAt ∈ zwd := zmem (List.mem_append_right _ (List.mem_append_right _ (List.mem_append_right _ (List.mem_append_left _ (List.mem_of_getElem? (i := 234) rfl))))) rfl
theorem mlX3_182 : Cond.methodLink RX3 182 yX3_isPointer ∈ zwd := zmem (List.mem_append_right _ (List.mem_append_right _ (List.mem_append_right _ (List.mem_append_left _ (List.mem_of_getElem? (i := 238) rfl))))) rfl
theorem mlL_88 : Cond.methodLink RL 88 yX3_position ∈ zwd := zmem (List.mem_append_right _ (List.mem_append_right _ (List.mem_append_right _ (List.mem_append_right _ (List.mem_of_getElem? (i := 2) rfl))))) rfl
theorem mlL_92 : Cond.methodLink RL 92 yX3_direction ∈ zwd := zmem (List.mem_append_right _ (List.mem_append_right _ (List.mem_append_right _ (List.mem_append_right _ (List.mem_of_getElem? (i := 6) rfl))))) rfl
theorem mlL_96 : Cond.methodLink RL 96 yX3_status ∈ zwd := zmem (List.mem_append_right _ (List.mem_append_right _ (List.mem_append_right _ (List.mem_append_right _ (List.mem_of_getElem? (i := 10) rfl))))) rfl
theorem mlL_100 : Cond.methodLink RL 100 yX3_sleep ∈ zwd := zmem (List.mem_append_right _ (List.mem_append_right _ (List.mem_append_right _ (List.mem_append_right _ (List.mem_of_getElem? (i := 14) rfl))))) rfl
theorem mlL_104 : Cond.methodLink RL 104 yX3_stackCount ∈ zwd := zmem (List.mem_append_right _ (List.mem_append_right _ (List.mem_append_right _ (List.mem_append_right _ (List.mem_of_getElem? (i := 18) rfl))))) rfl
theorem mlL_108 : Cond.methodLink RL 108 yX3_stackSize ∈ zwd := zmem (List.mem_append_right _ (List.mem_append_right _ (List.mem_append_right _ (List.mem_append_right _ (List.mem_of_getElem? (i := 22) rfl))))) rfl
theorem mlX3_186 : Cond.methodLink RX3 186 yX3_isStack ∈ zwd := zmem (List.mem_append_right _ (List.mem_append_right _ (List.mem_append_right _ (List.mem_append_right _ (List.mem_of_getElem? (i := 26) rfl))))) rfl
theorem mlL_112 : Cond.methodLink RL 112 yX3_valueAt ∈ zwd := zmem (List.mem_append_right _ (List.mem_append_right _ (List.mem_append_right _ (List.mem_append_right _ (List.mem_of_getElem? (i := 30) rfl))))) rfl
theorem mlL_116 : Cond.methodLink RL 116 yX3_inputSize ∈ zwd := zmem (List.mem_append_right _ (List.mem_append_right _ (List.mem_append_right _ (List.mem_append_right _ (List.mem_of_getElem? (i := 34) rfl))))) rfl
theorem mlL_120 : Cond.methodLink RL 120 yX3_outputSize ∈ zwd := zmem (List.mem_append_right _ (List.mem_append_right _ (List.mem_append_right _ (List.mem_append_right _ (List.mem_of_getElem? (i := 38) rfl))))) rfl
theorem mlL_124 : Cond.methodLink RL 124 yX3_outputAt ∈ zwd := zmem (List.mem_append_right _ (List.mem_append_right _ (List.mem_append_right _ (List.mem_append_right _ (List.mem_of_getElem? (i := 42) rfl))))) rfl
theorem mlL_128 : Cond.methodLink RL 128 yX3_outputTotal ∈ zwd := zmem (List.mem_append_right _ (List.mem_append_right _ (List.mem_append_right _ (List.mem_append_right _ (List.mem_of_getElem? (i := 46) rfl))))) rfl
theorem mlL_132 : Cond.methodLink RL 132 yX3_tickCount ∈ zwd := zmem (List.mem_append_right _ (List.mem_append_right _ (List.mem_append_right _ (List.mem_append_right _ (List.mem_of_getElem? (i := 50) rfl))))) rfl
theorem mlL_136 : Cond.methodLink RL 136 yX3_save ∈ zwd := zmem (List.mem_append_right _ (List.mem_append_right _ (List.mem_append_right _ (List.mem_append_right _ (List.mem_of_getElem? (i := 54) rfl))))) rfl
theorem mlL_140 : Cond.methodLink RL 140 yX3_restore ∈ zwd := zmem (List.mem_append_right _ (List.mem_append_right _ (List.mem_append_right _ (List.mem_append_right _ (List.mem_of_getElem? (i := 58) rfl))))) rfl
theorem mlL_144 : Cond.methodLink RL 144 yX3_undoDepth ∈ zwd := zmem (List.mem_append_right _ (List.mem_append_right _ (List.mem_append_right _ (List.mem_append_right _ (List.mem_of_getElem? (i := 62) rfl))))) rfl
theorem kn_object : Cond.instanceMethod objectInit ∈ zwd := zmem (List.mem_append_right _ (List.mem_append_left _ (List.mem_of_getElem? (i := 13) rfl))) rfl
theorem kt_arraycopy : Cond.static arraycopyName ∈ zwd := zmem (List.mem_append_right _ (List.mem_append_left _ (List.mem_of_getElem? (i := 173) rfl))) rfl
theorem kc_object : Cond.code objectInit ⟨#[0xb1]⟩ 1 none ∈ zwd := zmem (List.mem_append_right _ (List.mem_append_left _ (List.mem_of_getElem? (i := 14) rfl))) rfl
theorem kf0 : ∀ w ∈ u_ws RX0 TX0 9, w ∈ zwd := List.forall_mem_cons.mpr ⟨zmem (List.mem_append_right _ (List.mem_append_left _ (List.mem_of_getElem? (i := 45) rfl))) rfl, List.forall_mem_cons.mpr ⟨zmem (List.mem_append_right _ (List.mem_append_left _ (List.mem_of_getElem? (i := 47) rfl))) rfl, List.forall_mem_cons.mpr ⟨zmem (List.mem_append_right _ (List.mem_append_left _ (List.mem_of_getElem? (i := 49) rfl))) rfl, List.forall_mem_cons.mpr ⟨zmem (List.mem_append_right _ (List.mem_append_left _ (List.mem_of_getElem? (i := 51) rfl))) rfl, List.forall_mem_cons.mpr ⟨zmem (List.mem_append_right _ (List.mem_append_left _ (List.mem_of_getElem? (i := 53) rfl))) rfl, List.forall_mem_cons.mpr ⟨zmem (List.mem_append_right _ (List.mem_append_left _ (List.mem_of_getElem? (i := 55) rfl))) rfl, List.forall_mem_cons.mpr ⟨zmem (List.mem_append_right _ (List.mem_append_left _ (List.mem_of_getElem? (i := 57) rfl))) rfl, List.forall_mem_cons.mpr ⟨zmem (List.mem_append_right _ (List.mem_append_left _ (List.mem_of_getElem? (i := 59) rfl))) rfl, List.forall_mem_cons.mpr ⟨zmem (List.mem_append_right _ (List.mem_append_left _ (List.mem_of_getElem? (i := 61) rfl))) rfl, fun _ h => absurd h List.not_mem_nil⟩⟩⟩⟩⟩⟩⟩⟩⟩
theorem kf1 : ∀ w ∈ u_ws RX1 TX1 11, w ∈ zwd := List.forall_mem_cons.mpr ⟨zmem (List.mem_append_right _ (List.mem_append_left _ (List.mem_of_getElem? (i := 87) rfl))) rfl, List.forall_mem_cons.mpr ⟨zmem (List.mem_append_right _ (List.mem_append_left _ (List.mem_of_getElem? (i := 89) rfl))) rfl, List.forall_mem_cons.mpr ⟨zmem (List.mem_append_right _ (List.mem_append_left _ (List.mem_of_getElem? (i := 91) rfl))) rfl, List.forall_mem_cons.mpr ⟨zmem (List.mem_append_right _ (List.mem_append_left _ (List.mem_of_getElem? (i := 93) rfl))) rfl, List.forall_mem_cons.mpr ⟨zmem (List.mem_append_right _ (List.mem_append_left _ (List.mem_of_getElem? (i := 95) rfl))) rfl, List.forall_mem_cons.mpr ⟨zmem (List.mem_append_right _ (List.mem_append_left _ (List.mem_of_getElem? (i := 97) rfl))) rfl, List.forall_mem_cons.mpr ⟨zmem (List.mem_append_right _ (List.mem_append_left _ (List.mem_of_getElem? (i := 99) rfl))) rfl, List.forall_mem_cons.mpr ⟨zmem (List.mem_append_right _ (List.mem_append_left _ (List.mem_of_getElem? (i := 101) rfl))) rfl, List.forall_mem_cons.mpr ⟨zmem (List.mem_append_right _ (List.mem_append_left _ (List.mem_of_getElem? (i := 103) rfl))) rfl, List.forall_mem_cons.mpr ⟨zmem (List.mem_append_right _ (List.mem_append_left _ (List.mem_of_getElem? (i := 105) rfl))) rfl, List.forall_mem_cons.mpr ⟨zmem (List.mem_append_right _ (List.mem_append_left _ (List.mem_of_getElem? (i := 107) rfl))) rfl, fun _ h => absurd h List.not_mem_nil⟩⟩⟩⟩⟩⟩⟩⟩⟩⟩⟩
theorem kf2 : ∀ w ∈ u_ws RX2 TX2 11, w ∈ zwd := List.forall_mem_cons.mpr ⟨zmem (List.mem_append_right _ (List.mem_append_left _ (List.mem_of_getElem? (i := 122) rfl))) rfl, List.forall_mem_cons.mpr ⟨zmem (List.mem_append_right _ (List.mem_append_left _ (List.mem_of_getElem? (i := 124) rfl))) rfl, List.forall_mem_cons.mpr ⟨zmem (List.mem_append_right _ (List.mem_append_left _ (List.mem_of_getElem? (i := 126) rfl))) rfl, List.forall_mem_cons.mpr ⟨zmem (List.mem_append_right _ (List.mem_append_left _ (List.mem_of_getElem? (i := 128) rfl))) rfl, List.forall_mem_cons.mpr ⟨zmem (List.mem_append_right _ (List.mem_append_left _ (List.mem_of_getElem? (i := 130) rfl))) rfl, List.forall_mem_cons.mpr ⟨zmem (List.mem_append_right _ (List.mem_append_left _ (List.mem_of_getElem? (i := 132) rfl))) rfl, List.forall_mem_cons.mpr ⟨zmem (List.mem_append_right _ (List.mem_append_left _ (List.mem_of_getElem? (i := 134) rfl))) rfl, List.forall_mem_cons.mpr ⟨zmem (List.mem_append_right _ (List.mem_append_left _ (List.mem_of_getElem? (i := 136) rfl))) rfl, List.forall_mem_cons.mpr ⟨zmem (List.mem_append_right _ (List.mem_append_left _ (List.mem_of_getElem? (i := 138) rfl))) rfl, List.forall_mem_cons.mpr ⟨zmem (List.mem_append_right _ (List.mem_append_left _ (List.mem_of_getElem? (i := 140) rfl))) rfl, List.forall_mem_cons.mpr ⟨zmem (List.mem_append_right _ (List.mem_append_left _ (List.mem_of_getElem? (i := 142) rfl))) rfl, fun _ h => absurd h List.not_mem_nil⟩⟩⟩⟩⟩⟩⟩⟩⟩⟩⟩
theorem kf3 : ∀ w ∈ u_ws RX3 TX3 14, w ∈ zwd := List.forall_mem_cons.mpr ⟨zmem (List.mem_append_right _ (List.mem_append_right _ (List.mem_append_left _ (List.mem_of_getElem? (i := 235) rfl)))) rfl, List.forall_mem_cons.mpr ⟨zmem (List.mem_append_right _ (List.mem_append_right _ (List.mem_append_left _ (List.mem_of_getElem? (i := 237) rfl)))) rfl, List.forall_mem_cons.mpr ⟨zmem (List.mem_append_right _ (List.mem_append_right _ (List.mem_append_left _ (List.mem_of_getElem? (i := 239) rfl)))) rfl, List.forall_mem_cons.mpr ⟨zmem (List.mem_append_right _ (List.mem_append_right _ (List.mem_append_right _ (List.mem_append_left _ (List.mem_of_getElem? (i := 1) rfl))))) rfl, List.forall_mem_cons.mpr ⟨zmem (List.mem_append_right _ (List.mem_append_right _ (List.mem_append_right _ (List.mem_append_left _ (List.mem_of_getElem? (i := 3) rfl))))) rfl, List.forall_mem_cons.mpr ⟨zmem (List.mem_append_right _ (List.mem_append_right _ (List.mem_append_right _ (List.mem_append_left _ (List.mem_of_getElem? (i := 5) rfl))))) rfl, List.forall_mem_cons.mpr ⟨zmem (List.mem_append_right _ (List.mem_append_right _ (List.mem_append_right _ (List.mem_append_left _ (List.mem_of_getElem? (i := 7) rfl))))) rfl, List.forall_mem_cons.mpr ⟨zmem (List.mem_append_right _ (List.mem_append_right _ (List.mem_append_right _ (List.mem_append_left _ (List.mem_of_getElem? (i := 9) rfl))))) rfl, List.forall_mem_cons.mpr ⟨zmem (List.mem_append_right _ (List.mem_append_right _ (List.mem_append_right _ (List.mem_append_left _ (List.mem_of_getElem? (i := 11) rfl))))) rfl, List.forall_mem_cons.mpr ⟨zmem (List.mem_append_right _ (List.mem_append_right _ (List.mem_append_right _ (List.mem_append_left _ (List.mem_of_getElem? (i := 13) rfl))))) rfl, List.forall_mem_cons.mpr ⟨zmem (List.mem_append_right _ (List.mem_append_right _ (List.mem_append_right _ (List.mem_append_left _ (List.mem_of_getElem? (i := 15) rfl))))) rfl, List.forall_mem_cons.mpr ⟨zmem (List.mem_append_right _ (List.mem_append_right _ (List.mem_append_right _ (List.mem_append_left _ (List.mem_of_getElem? (i := 17) rfl))))) rfl, List.forall_mem_cons.mpr ⟨zmem (List.mem_append_right _ (List.mem_append_right _ (List.mem_append_right _ (List.mem_append_left _ (List.mem_of_getElem? (i := 19) rfl))))) rfl, List.forall_mem_cons.mpr ⟨zmem (List.mem_append_right _ (List.mem_append_right _ (List.mem_append_right _ (List.mem_append_left _ (List.mem_of_getElem? (i := 21) rfl))))) rfl, fun _ h => absurd h List.not_mem_nil⟩⟩⟩⟩⟩⟩⟩⟩⟩⟩⟩⟩⟩⟩
