section
-- ===== PART A: goes FIRST, ahead of the names: the tables' words, and 'selects' of the private methods out of them =====
/-- a private method of a class that the tables say can be made, by its rows of tables_1 -/
def lw_okq (q : MethodName × Nat) : Prop := (q.1.cls ≠ "java/lang/invoke/MethodHandle" ∧ q.1.cls ≠ "java/lang/invoke/VarHandle") ∧ Cond.instantiable q.1.cls q.2 ∈ tables_1 ∧ Cond.privateMethod q.1 ∈ tables_1 ∧ Cond.instanceMethod q.1 ∈ tables_1
theorem lw_p0 : lw_okq (⟨"HourClock", "save", "()V"⟩, 5) := ⟨⟨by decide +kernel, by decide +kernel⟩, List.mem_of_getElem? (i := 19) (by decide +kernel), List.mem_of_getElem? (i := 230) (by decide +kernel), List.mem_of_getElem? (i := 231) (by decide +kernel)⟩
theorem lw_p1 : lw_okq (⟨"HourClock", "forgetOldest", "()V"⟩, 5) := ⟨⟨by decide +kernel, by decide +kernel⟩, List.mem_of_getElem? (i := 19) (by decide +kernel), List.mem_of_getElem? (i := 234) (by decide +kernel), List.mem_of_getElem? (i := 235) (by decide +kernel)⟩
theorem lw_p2 : lw_okq (⟨"HourClock$Hour", "copyFrom", "(LHourClock$Hour;)V"⟩, 11) := ⟨⟨by decide +kernel, by decide +kernel⟩, List.mem_of_getElem? (i := 27) (by decide +kernel), List.mem_of_getElem? (i := 238) (by decide +kernel), List.mem_of_getElem? (i := 239) (by decide +kernel)⟩
theorem lw_p3 : lw_okq (⟨"HourClock$Elements", "copyFrom", "(LHourClock$Elements;)V"⟩, 6) := ⟨⟨by decide +kernel, by decide +kernel⟩, List.mem_of_getElem? (i := 33) (by decide +kernel), List.mem_of_getElem? (i := 242) (by decide +kernel), List.mem_of_getElem? (i := 243) (by decide +kernel)⟩
theorem lw_p4 : lw_okq (⟨"HourClock$Fillers", "copyFrom", "(LHourClock$Fillers;)V"⟩, 5) := ⟨⟨by decide +kernel, by decide +kernel⟩, List.mem_of_getElem? (i := 66) (by decide +kernel), List.mem_of_getElem? (i := 249) (by decide +kernel), List.mem_of_getElem? (i := 250) (by decide +kernel)⟩
theorem lw_p5 : lw_okq (⟨"HourClock$Log", "copyFrom", "(LHourClock$Log;)V"⟩, 4) := ⟨⟨by decide +kernel, by decide +kernel⟩, List.mem_of_getElem? (i := 125) (by decide +kernel), List.mem_of_getElem? (i := 254) (by decide +kernel), List.mem_of_getElem? (i := 255) (by decide +kernel)⟩
theorem lw_p6 : lw_okq (⟨"HourClock$Hour", "runTo", "(I)V"⟩, 11) := ⟨⟨by decide +kernel, by decide +kernel⟩, List.mem_of_getElem? (i := 27) (by decide +kernel), List.mem_of_getElem? (i := 260) (by decide +kernel), List.mem_of_getElem? (i := 261) (by decide +kernel)⟩
theorem lw_p7 : lw_okq (⟨"HourClock$Hour", "findNext", "()V"⟩, 11) := ⟨⟨by decide +kernel, by decide +kernel⟩, List.mem_of_getElem? (i := 27) (by decide +kernel), List.mem_of_getElem? (i := 264) (by decide +kernel), List.mem_of_getElem? (i := 265) (by decide +kernel)⟩
theorem lw_p8 : lw_okq (⟨"HourClock$Hour", "dropForTime", "()V"⟩, 11) := ⟨⟨by decide +kernel, by decide +kernel⟩, List.mem_of_getElem? (i := 27) (by decide +kernel), List.mem_of_getElem? (i := 268) (by decide +kernel), List.mem_of_getElem? (i := 269) (by decide +kernel)⟩
theorem lw_p9 : lw_okq (⟨"HourClock$Elements", "leastOfSection", "()I"⟩, 6) := ⟨⟨by decide +kernel, by decide +kernel⟩, List.mem_of_getElem? (i := 33) (by decide +kernel), List.mem_of_getElem? (i := 272) (by decide +kernel), List.mem_of_getElem? (i := 273) (by decide +kernel)⟩
theorem lw_p10 : lw_okq (⟨"HourClock$Elements", "nextFixed", "(I)I"⟩, 6) := ⟨⟨by decide +kernel, by decide +kernel⟩, List.mem_of_getElem? (i := 33) (by decide +kernel), List.mem_of_getElem? (i := 276) (by decide +kernel), List.mem_of_getElem? (i := 277) (by decide +kernel)⟩
theorem lw_p11 : lw_okq (⟨"HourClock$Elements", "sectionLength", "()I"⟩, 6) := ⟨⟨by decide +kernel, by decide +kernel⟩, List.mem_of_getElem? (i := 33) (by decide +kernel), List.mem_of_getElem? (i := 280) (by decide +kernel), List.mem_of_getElem? (i := 281) (by decide +kernel)⟩
theorem lw_p12 : lw_okq (⟨"HourClock$Elements", "waitingLength", "(II)I"⟩, 6) := ⟨⟨by decide +kernel, by decide +kernel⟩, List.mem_of_getElem? (i := 33) (by decide +kernel), List.mem_of_getElem? (i := 284) (by decide +kernel), List.mem_of_getElem? (i := 285) (by decide +kernel)⟩
theorem lw_p13 : lw_okq (⟨"HourClock$Elements", "goal", "()I"⟩, 6) := ⟨⟨by decide +kernel, by decide +kernel⟩, List.mem_of_getElem? (i := 33) (by decide +kernel), List.mem_of_getElem? (i := 288) (by decide +kernel), List.mem_of_getElem? (i := 289) (by decide +kernel)⟩
theorem lw_p14 : lw_okq (⟨"HourClock$Elements", "timeOrHourEnd", "(I)I"⟩, 6) := ⟨⟨by decide +kernel, by decide +kernel⟩, List.mem_of_getElem? (i := 33) (by decide +kernel), List.mem_of_getElem? (i := 292) (by decide +kernel), List.mem_of_getElem? (i := 293) (by decide +kernel)⟩
theorem lw_p15 : lw_okq (⟨"HourClock$Elements", "has", "(I)Z"⟩, 6) := ⟨⟨by decide +kernel, by decide +kernel⟩, List.mem_of_getElem? (i := 33) (by decide +kernel), List.mem_of_getElem? (i := 296) (by decide +kernel), List.mem_of_getElem? (i := 297) (by decide +kernel)⟩
def lw_privs_1 : List (MethodName × Nat) := [(⟨"HourClock", "save", "()V"⟩, 5), (⟨"HourClock", "forgetOldest", "()V"⟩, 5), (⟨"HourClock$Hour", "copyFrom", "(LHourClock$Hour;)V"⟩, 11), (⟨"HourClock$Elements", "copyFrom", "(LHourClock$Elements;)V"⟩, 6), (⟨"HourClock$Fillers", "copyFrom", "(LHourClock$Fillers;)V"⟩, 5), (⟨"HourClock$Log", "copyFrom", "(LHourClock$Log;)V"⟩, 4), (⟨"HourClock$Hour", "runTo", "(I)V"⟩, 11), (⟨"HourClock$Hour", "findNext", "()V"⟩, 11), (⟨"HourClock$Hour", "dropForTime", "()V"⟩, 11), (⟨"HourClock$Elements", "leastOfSection", "()I"⟩, 6), (⟨"HourClock$Elements", "nextFixed", "(I)I"⟩, 6), (⟨"HourClock$Elements", "sectionLength", "()I"⟩, 6), (⟨"HourClock$Elements", "waitingLength", "(II)I"⟩, 6), (⟨"HourClock$Elements", "goal", "()I"⟩, 6), (⟨"HourClock$Elements", "timeOrHourEnd", "(I)I"⟩, 6), (⟨"HourClock$Elements", "has", "(I)Z"⟩, 6)]
theorem lw_r1 : ∀ q ∈ lw_privs_1, lw_okq q := List.forall_mem_cons.mpr ⟨lw_p0, List.forall_mem_cons.mpr ⟨lw_p1, List.forall_mem_cons.mpr ⟨lw_p2, List.forall_mem_cons.mpr ⟨lw_p3, List.forall_mem_cons.mpr ⟨lw_p4, List.forall_mem_cons.mpr ⟨lw_p5, List.forall_mem_cons.mpr ⟨lw_p6, List.forall_mem_cons.mpr ⟨lw_p7, List.forall_mem_cons.mpr ⟨lw_p8, List.forall_mem_cons.mpr ⟨lw_p9, List.forall_mem_cons.mpr ⟨lw_p10, List.forall_mem_cons.mpr ⟨lw_p11, List.forall_mem_cons.mpr ⟨lw_p12, List.forall_mem_cons.mpr ⟨lw_p13, List.forall_mem_cons.mpr ⟨lw_p14, List.forall_mem_cons.mpr ⟨lw_p15, fun _ h => absurd h List.not_mem_nil⟩⟩⟩⟩⟩⟩⟩⟩⟩⟩⟩⟩⟩⟩⟩⟩
theorem lw_p16 : lw_okq (⟨"HourClock$Hour", "dropElement", "(I)V"⟩, 11) := ⟨⟨by decide +kernel, by decide +kernel⟩, List.mem_of_getElem? (i := 27) (by decide +kernel), List.mem_of_getElem? (i := 300) (by decide +kernel), List.mem_of_getElem? (i := 301) (by decide +kernel)⟩
theorem lw_p17 : lw_okq (⟨"HourClock$Log", "add", "(III)V"⟩, 4) := ⟨⟨by decide +kernel, by decide +kernel⟩, List.mem_of_getElem? (i := 125) (by decide +kernel), List.mem_of_getElem? (i := 305) (by decide +kernel), List.mem_of_getElem? (i := 306) (by decide +kernel)⟩
theorem lw_p18 : lw_okq (⟨"HourClock$Elements", "firstThatWaits", "()I"⟩, 6) := ⟨⟨by decide +kernel, by decide +kernel⟩, List.mem_of_getElem? (i := 33) (by decide +kernel), List.mem_of_getElem? (i := 309) (by decide +kernel), List.mem_of_getElem? (i := 310) (by decide +kernel)⟩
theorem lw_p19 : lw_okq (⟨"HourClock$Elements", "isFixed", "(I)Z"⟩, 6) := ⟨⟨by decide +kernel, by decide +kernel⟩, List.mem_of_getElem? (i := 33) (by decide +kernel), List.mem_of_getElem? (i := 313) (by decide +kernel), List.mem_of_getElem? (i := 314) (by decide +kernel)⟩
theorem lw_p20 : lw_okq (⟨"HourClock$Hour", "fillGap", "(I)V"⟩, 11) := ⟨⟨by decide +kernel, by decide +kernel⟩, List.mem_of_getElem? (i := 27) (by decide +kernel), List.mem_of_getElem? (i := 317) (by decide +kernel), List.mem_of_getElem? (i := 318) (by decide +kernel)⟩
theorem lw_p21 : lw_okq (⟨"HourClock$Fillers", "chooseFor", "(I)I"⟩, 5) := ⟨⟨by decide +kernel, by decide +kernel⟩, List.mem_of_getElem? (i := 66) (by decide +kernel), List.mem_of_getElem? (i := 321) (by decide +kernel), List.mem_of_getElem? (i := 322) (by decide +kernel)⟩
theorem lw_p22 : lw_okq (⟨"HourClock$SetWalk", "begin", "(LHourClock$Fillers;)I"⟩, 6) := ⟨⟨by decide +kernel, by decide +kernel⟩, List.mem_of_getElem? (i := 72) (by decide +kernel), List.mem_of_getElem? (i := 325) (by decide +kernel), List.mem_of_getElem? (i := 326) (by decide +kernel)⟩
theorem lw_p23 : lw_okq (⟨"HourClock$SetWalk", "go", "(I)V"⟩, 6) := ⟨⟨by decide +kernel, by decide +kernel⟩, List.mem_of_getElem? (i := 72) (by decide +kernel), List.mem_of_getElem? (i := 329) (by decide +kernel), List.mem_of_getElem? (i := 330) (by decide +kernel)⟩
theorem lw_p24 : lw_okq (⟨"HourClock$Fillers", "has", "(I)Z"⟩, 5) := ⟨⟨by decide +kernel, by decide +kernel⟩, List.mem_of_getElem? (i := 66) (by decide +kernel), List.mem_of_getElem? (i := 338) (by decide +kernel), List.mem_of_getElem? (i := 339) (by decide +kernel)⟩
theorem lw_p25 : lw_okq (⟨"HourClock$Hour", "putOnAir", "(III)V"⟩, 11) := ⟨⟨by decide +kernel, by decide +kernel⟩, List.mem_of_getElem? (i := 27) (by decide +kernel), List.mem_of_getElem? (i := 342) (by decide +kernel), List.mem_of_getElem? (i := 343) (by decide +kernel)⟩
theorem lw_p26 : lw_okq (⟨"HourClock$Hour", "beginElement", "(I)V"⟩, 11) := ⟨⟨by decide +kernel, by decide +kernel⟩, List.mem_of_getElem? (i := 27) (by decide +kernel), List.mem_of_getElem? (i := 346) (by decide +kernel), List.mem_of_getElem? (i := 347) (by decide +kernel)⟩
theorem lw_p27 : lw_okq (⟨"HourClock$Elements", "lateness", "(I)I"⟩, 6) := ⟨⟨by decide +kernel, by decide +kernel⟩, List.mem_of_getElem? (i := 33) (by decide +kernel), List.mem_of_getElem? (i := 350) (by decide +kernel), List.mem_of_getElem? (i := 351) (by decide +kernel)⟩
theorem lw_p28 : lw_okq (⟨"HourClock$Hour", "passAir", "(I)V"⟩, 11) := ⟨⟨by decide +kernel, by decide +kernel⟩, List.mem_of_getElem? (i := 27) (by decide +kernel), List.mem_of_getElem? (i := 358) (by decide +kernel), List.mem_of_getElem? (i := 359) (by decide +kernel)⟩
theorem lw_p29 : lw_okq (⟨"HourClock$Hour", "endAir", "()V"⟩, 11) := ⟨⟨by decide +kernel, by decide +kernel⟩, List.mem_of_getElem? (i := 27) (by decide +kernel), List.mem_of_getElem? (i := 365) (by decide +kernel), List.mem_of_getElem? (i := 366) (by decide +kernel)⟩
theorem lw_p30 : lw_okq (⟨"HourClock$Hour", "clearAir", "()V"⟩, 11) := ⟨⟨by decide +kernel, by decide +kernel⟩, List.mem_of_getElem? (i := 27) (by decide +kernel), List.mem_of_getElem? (i := 369) (by decide +kernel), List.mem_of_getElem? (i := 370) (by decide +kernel)⟩
theorem lw_p31 : lw_okq (⟨"HourClock", "foresee", "(I)LHourClock$Hour;"⟩, 5) := ⟨⟨by decide +kernel, by decide +kernel⟩, List.mem_of_getElem? (i := 19) (by decide +kernel), List.mem_of_getElem? (i := 377) (by decide +kernel), List.mem_of_getElem? (i := 378) (by decide +kernel)⟩
def lw_privs_2 : List (MethodName × Nat) := [(⟨"HourClock$Hour", "dropElement", "(I)V"⟩, 11), (⟨"HourClock$Log", "add", "(III)V"⟩, 4), (⟨"HourClock$Elements", "firstThatWaits", "()I"⟩, 6), (⟨"HourClock$Elements", "isFixed", "(I)Z"⟩, 6), (⟨"HourClock$Hour", "fillGap", "(I)V"⟩, 11), (⟨"HourClock$Fillers", "chooseFor", "(I)I"⟩, 5), (⟨"HourClock$SetWalk", "begin", "(LHourClock$Fillers;)I"⟩, 6), (⟨"HourClock$SetWalk", "go", "(I)V"⟩, 6), (⟨"HourClock$Fillers", "has", "(I)Z"⟩, 5), (⟨"HourClock$Hour", "putOnAir", "(III)V"⟩, 11), (⟨"HourClock$Hour", "beginElement", "(I)V"⟩, 11), (⟨"HourClock$Elements", "lateness", "(I)I"⟩, 6), (⟨"HourClock$Hour", "passAir", "(I)V"⟩, 11), (⟨"HourClock$Hour", "endAir", "()V"⟩, 11), (⟨"HourClock$Hour", "clearAir", "()V"⟩, 11), (⟨"HourClock", "foresee", "(I)LHourClock$Hour;"⟩, 5)]
theorem lw_r2 : ∀ q ∈ lw_privs_2, lw_okq q := List.forall_mem_cons.mpr ⟨lw_p16, List.forall_mem_cons.mpr ⟨lw_p17, List.forall_mem_cons.mpr ⟨lw_p18, List.forall_mem_cons.mpr ⟨lw_p19, List.forall_mem_cons.mpr ⟨lw_p20, List.forall_mem_cons.mpr ⟨lw_p21, List.forall_mem_cons.mpr ⟨lw_p22, List.forall_mem_cons.mpr ⟨lw_p23, List.forall_mem_cons.mpr ⟨lw_p24, List.forall_mem_cons.mpr ⟨lw_p25, List.forall_mem_cons.mpr ⟨lw_p26, List.forall_mem_cons.mpr ⟨lw_p27, List.forall_mem_cons.mpr ⟨lw_p28, List.forall_mem_cons.mpr ⟨lw_p29, List.forall_mem_cons.mpr ⟨lw_p30, List.forall_mem_cons.mpr ⟨lw_p31, fun _ h => absurd h List.not_mem_nil⟩⟩⟩⟩⟩⟩⟩⟩⟩⟩⟩⟩⟩⟩⟩⟩
theorem lw_p32 : lw_okq (⟨"HourClock$Elements", "waits", "(I)Z"⟩, 6) := ⟨⟨by decide +kernel, by decide +kernel⟩, List.mem_of_getElem? (i := 33) (by decide +kernel), List.mem_of_getElem? (i := 387) (by decide +kernel), List.mem_of_getElem? (i := 388) (by decide +kernel)⟩
theorem lw_p33 : lw_okq (⟨"HourClock$Elements", "is", "(II)Z"⟩, 6) := ⟨⟨by decide +kernel, by decide +kernel⟩, List.mem_of_getElem? (i := 33) (by decide +kernel), List.mem_of_getElem? (i := 391) (by decide +kernel), List.mem_of_getElem? (i := 392) (by decide +kernel)⟩
theorem lw_p34 : lw_okq (⟨"HourClock$Elements", "countThatAre", "(I)I"⟩, 6) := ⟨⟨by decide +kernel, by decide +kernel⟩, List.mem_of_getElem? (i := 33) (by decide +kernel), List.mem_of_getElem? (i := 404) (by decide +kernel), List.mem_of_getElem? (i := 405) (by decide +kernel)⟩
theorem lw_p35 : lw_okq (⟨"HourClock$Text", "readInto", "(LHourClock$Hour;)I"⟩, 4) := ⟨⟨by decide +kernel, by decide +kernel⟩, List.mem_of_getElem? (i := 190) (by decide +kernel), List.mem_of_getElem? (i := 420) (by decide +kernel), List.mem_of_getElem? (i := 421) (by decide +kernel)⟩
theorem lw_p36 : lw_okq (⟨"HourClock$Hour", "becomeEmpty", "()V"⟩, 11) := ⟨⟨by decide +kernel, by decide +kernel⟩, List.mem_of_getElem? (i := 27) (by decide +kernel), List.mem_of_getElem? (i := 424) (by decide +kernel), List.mem_of_getElem? (i := 425) (by decide +kernel)⟩
theorem lw_p37 : lw_okq (⟨"HourClock$Hour", "beginAnew", "()V"⟩, 11) := ⟨⟨by decide +kernel, by decide +kernel⟩, List.mem_of_getElem? (i := 27) (by decide +kernel), List.mem_of_getElem? (i := 428) (by decide +kernel), List.mem_of_getElem? (i := 429) (by decide +kernel)⟩
theorem lw_p38 : lw_okq (⟨"HourClock$Elements", "allWait", "()V"⟩, 6) := ⟨⟨by decide +kernel, by decide +kernel⟩, List.mem_of_getElem? (i := 33) (by decide +kernel), List.mem_of_getElem? (i := 432) (by decide +kernel), List.mem_of_getElem? (i := 433) (by decide +kernel)⟩
theorem lw_p39 : lw_okq (⟨"HourClock$Fillers", "allWait", "()V"⟩, 5) := ⟨⟨by decide +kernel, by decide +kernel⟩, List.mem_of_getElem? (i := 66) (by decide +kernel), List.mem_of_getElem? (i := 436) (by decide +kernel), List.mem_of_getElem? (i := 437) (by decide +kernel)⟩
theorem lw_p40 : lw_okq (⟨"HourClock$Text", "readItem", "(LHourClock$Hour;)V"⟩, 4) := ⟨⟨by decide +kernel, by decide +kernel⟩, List.mem_of_getElem? (i := 190) (by decide +kernel), List.mem_of_getElem? (i := 440) (by decide +kernel), List.mem_of_getElem? (i := 441) (by decide +kernel)⟩
theorem lw_p41 : lw_okq (⟨"HourClock$Text", "here", "()I"⟩, 4) := ⟨⟨by decide +kernel, by decide +kernel⟩, List.mem_of_getElem? (i := 190) (by decide +kernel), List.mem_of_getElem? (i := 444) (by decide +kernel), List.mem_of_getElem? (i := 445) (by decide +kernel)⟩
theorem lw_p42 : lw_okq (⟨"HourClock$Text", "isDigit", "(I)Z"⟩, 4) := ⟨⟨by decide +kernel, by decide +kernel⟩, List.mem_of_getElem? (i := 190) (by decide +kernel), List.mem_of_getElem? (i := 448) (by decide +kernel), List.mem_of_getElem? (i := 449) (by decide +kernel)⟩
theorem lw_p43 : lw_okq (⟨"HourClock$Text", "readElement", "(LHourClock$Elements;)V"⟩, 4) := ⟨⟨by decide +kernel, by decide +kernel⟩, List.mem_of_getElem? (i := 190) (by decide +kernel), List.mem_of_getElem? (i := 452) (by decide +kernel), List.mem_of_getElem? (i := 453) (by decide +kernel)⟩
theorem lw_p44 : lw_okq (⟨"HourClock$Text", "readNumber", "(III)I"⟩, 4) := ⟨⟨by decide +kernel, by decide +kernel⟩, List.mem_of_getElem? (i := 190) (by decide +kernel), List.mem_of_getElem? (i := 456) (by decide +kernel), List.mem_of_getElem? (i := 457) (by decide +kernel)⟩
theorem lw_p45 : lw_okq (⟨"HourClock$Text", "fail", "(I)V"⟩, 4) := ⟨⟨by decide +kernel, by decide +kernel⟩, List.mem_of_getElem? (i := 190) (by decide +kernel), List.mem_of_getElem? (i := 460) (by decide +kernel), List.mem_of_getElem? (i := 461) (by decide +kernel)⟩
theorem lw_p46 : lw_okq (⟨"HourClock$Text", "take", "(C)Z"⟩, 4) := ⟨⟨by decide +kernel, by decide +kernel⟩, List.mem_of_getElem? (i := 190) (by decide +kernel), List.mem_of_getElem? (i := 464) (by decide +kernel), List.mem_of_getElem? (i := 465) (by decide +kernel)⟩
theorem lw_p47 : lw_okq (⟨"HourClock$Text", "takeSemicolon", "()Z"⟩, 4) := ⟨⟨by decide +kernel, by decide +kernel⟩, List.mem_of_getElem? (i := 190) (by decide +kernel), List.mem_of_getElem? (i := 468) (by decide +kernel), List.mem_of_getElem? (i := 469) (by decide +kernel)⟩
def lw_privs_3 : List (MethodName × Nat) := [(⟨"HourClock$Elements", "waits", "(I)Z"⟩, 6), (⟨"HourClock$Elements", "is", "(II)Z"⟩, 6), (⟨"HourClock$Elements", "countThatAre", "(I)I"⟩, 6), (⟨"HourClock$Text", "readInto", "(LHourClock$Hour;)I"⟩, 4), (⟨"HourClock$Hour", "becomeEmpty", "()V"⟩, 11), (⟨"HourClock$Hour", "beginAnew", "()V"⟩, 11), (⟨"HourClock$Elements", "allWait", "()V"⟩, 6), (⟨"HourClock$Fillers", "allWait", "()V"⟩, 5), (⟨"HourClock$Text", "readItem", "(LHourClock$Hour;)V"⟩, 4), (⟨"HourClock$Text", "here", "()I"⟩, 4), (⟨"HourClock$Text", "isDigit", "(I)Z"⟩, 4), (⟨"HourClock$Text", "readElement", "(LHourClock$Elements;)V"⟩, 4), (⟨"HourClock$Text", "readNumber", "(III)I"⟩, 4), (⟨"HourClock$Text", "fail", "(I)V"⟩, 4), (⟨"HourClock$Text", "take", "(C)Z"⟩, 4), (⟨"HourClock$Text", "takeSemicolon", "()Z"⟩, 4)]
theorem lw_r3 : ∀ q ∈ lw_privs_3, lw_okq q := List.forall_mem_cons.mpr ⟨lw_p32, List.forall_mem_cons.mpr ⟨lw_p33, List.forall_mem_cons.mpr ⟨lw_p34, List.forall_mem_cons.mpr ⟨lw_p35, List.forall_mem_cons.mpr ⟨lw_p36, List.forall_mem_cons.mpr ⟨lw_p37, List.forall_mem_cons.mpr ⟨lw_p38, List.forall_mem_cons.mpr ⟨lw_p39, List.forall_mem_cons.mpr ⟨lw_p40, List.forall_mem_cons.mpr ⟨lw_p41, List.forall_mem_cons.mpr ⟨lw_p42, List.forall_mem_cons.mpr ⟨lw_p43, List.forall_mem_cons.mpr ⟨lw_p44, List.forall_mem_cons.mpr ⟨lw_p45, List.forall_mem_cons.mpr ⟨lw_p46, List.forall_mem_cons.mpr ⟨lw_p47, fun _ h => absurd h List.not_mem_nil⟩⟩⟩⟩⟩⟩⟩⟩⟩⟩⟩⟩⟩⟩⟩⟩
theorem lw_p48 : lw_okq (⟨"HourClock$Elements", "add", "(III)V"⟩, 6) := ⟨⟨by decide +kernel, by decide +kernel⟩, List.mem_of_getElem? (i := 33) (by decide +kernel), List.mem_of_getElem? (i := 472) (by decide +kernel), List.mem_of_getElem? (i := 473) (by decide +kernel)⟩
theorem lw_p49 : lw_okq (⟨"HourClock$Text", "readFiller", "(LHourClock$Fillers;)V"⟩, 4) := ⟨⟨by decide +kernel, by decide +kernel⟩, List.mem_of_getElem? (i := 190) (by decide +kernel), List.mem_of_getElem? (i := 476) (by decide +kernel), List.mem_of_getElem? (i := 477) (by decide +kernel)⟩
theorem lw_p50 : lw_okq (⟨"HourClock$Fillers", "add", "(I)V"⟩, 5) := ⟨⟨by decide +kernel, by decide +kernel⟩, List.mem_of_getElem? (i := 66) (by decide +kernel), List.mem_of_getElem? (i := 480) (by decide +kernel), List.mem_of_getElem? (i := 481) (by decide +kernel)⟩
theorem lw_p51 : lw_okq (⟨"HourClock$Hour", "tell", "(I)I"⟩, 11) := ⟨⟨by decide +kernel, by decide +kernel⟩, List.mem_of_getElem? (i := 27) (by decide +kernel), List.mem_of_getElem? (i := 490) (by decide +kernel), List.mem_of_getElem? (i := 491) (by decide +kernel)⟩
theorem lw_p52 : lw_okq (⟨"HourClock$Fillers", "countThatWait", "()I"⟩, 5) := ⟨⟨by decide +kernel, by decide +kernel⟩, List.mem_of_getElem? (i := 66) (by decide +kernel), List.mem_of_getElem? (i := 495) (by decide +kernel), List.mem_of_getElem? (i := 496) (by decide +kernel)⟩
theorem lw_p53 : lw_okq (⟨"HourClock$Elements", "tell", "(II)I"⟩, 6) := ⟨⟨by decide +kernel, by decide +kernel⟩, List.mem_of_getElem? (i := 33) (by decide +kernel), List.mem_of_getElem? (i := 499) (by decide +kernel), List.mem_of_getElem? (i := 500) (by decide +kernel)⟩
theorem lw_p54 : lw_okq (⟨"HourClock$Elements", "inSection", "(I)Z"⟩, 6) := ⟨⟨by decide +kernel, by decide +kernel⟩, List.mem_of_getElem? (i := 33) (by decide +kernel), List.mem_of_getElem? (i := 504) (by decide +kernel), List.mem_of_getElem? (i := 505) (by decide +kernel)⟩
theorem lw_p55 : lw_okq (⟨"HourClock$Elements", "latestBegin", "(I)I"⟩, 6) := ⟨⟨by decide +kernel, by decide +kernel⟩, List.mem_of_getElem? (i := 33) (by decide +kernel), List.mem_of_getElem? (i := 509) (by decide +kernel), List.mem_of_getElem? (i := 510) (by decide +kernel)⟩
theorem lw_p56 : lw_okq (⟨"HourClock$Elements", "begunAt", "(I)I"⟩, 6) := ⟨⟨by decide +kernel, by decide +kernel⟩, List.mem_of_getElem? (i := 33) (by decide +kernel), List.mem_of_getElem? (i := 513) (by decide +kernel), List.mem_of_getElem? (i := 514) (by decide +kernel)⟩
theorem lw_p57 : lw_okq (⟨"HourClock$Fillers", "tell", "(II)I"⟩, 5) := ⟨⟨by decide +kernel, by decide +kernel⟩, List.mem_of_getElem? (i := 66) (by decide +kernel), List.mem_of_getElem? (i := 517) (by decide +kernel), List.mem_of_getElem? (i := 518) (by decide +kernel)⟩
theorem lw_p58 : lw_okq (⟨"HourClock$Log", "tell", "(II)I"⟩, 4) := ⟨⟨by decide +kernel, by decide +kernel⟩, List.mem_of_getElem? (i := 125) (by decide +kernel), List.mem_of_getElem? (i := 522) (by decide +kernel), List.mem_of_getElem? (i := 523) (by decide +kernel)⟩
theorem lw_p59 : lw_okq (⟨"HourClock$Log", "has", "(I)Z"⟩, 4) := ⟨⟨by decide +kernel, by decide +kernel⟩, List.mem_of_getElem? (i := 125) (by decide +kernel), List.mem_of_getElem? (i := 526) (by decide +kernel), List.mem_of_getElem? (i := 527) (by decide +kernel)⟩
theorem lw_p60 : lw_okq (⟨"java/lang/Throwable", "fillInStackTrace", "(I)Ljava/lang/Throwable;"⟩, 6) := ⟨⟨by decide +kernel, by decide +kernel⟩, List.mem_of_getElem? (i := 577) (by decide +kernel), List.mem_of_getElem? (i := 575) (by decide +kernel), List.mem_of_getElem? (i := 576) (by decide +kernel)⟩
theorem lw_p61 : lw_okq (⟨"HourClock$Hour", "canHaveLength", "(II)Z"⟩, 11) := ⟨⟨by decide +kernel, by decide +kernel⟩, List.mem_of_getElem? (i := 27) (by decide +kernel), List.mem_of_getElem? (i := 660) (by decide +kernel), List.mem_of_getElem? (i := 661) (by decide +kernel)⟩
theorem lw_p62 : lw_okq (⟨"HourClock$Hour", "giveLength", "(II)V"⟩, 11) := ⟨⟨by decide +kernel, by decide +kernel⟩, List.mem_of_getElem? (i := 27) (by decide +kernel), List.mem_of_getElem? (i := 668) (by decide +kernel), List.mem_of_getElem? (i := 669) (by decide +kernel)⟩
theorem lw_p63 : lw_okq (⟨"HourClock$Fillers", "leastSumAbove", "(I)I"⟩, 5) := ⟨⟨by decide +kernel, by decide +kernel⟩, List.mem_of_getElem? (i := 66) (by decide +kernel), List.mem_of_getElem? (i := 761) (by decide +kernel), List.mem_of_getElem? (i := 762) (by decide +kernel)⟩
def lw_privs_4 : List (MethodName × Nat) := [(⟨"HourClock$Elements", "add", "(III)V"⟩, 6), (⟨"HourClock$Text", "readFiller", "(LHourClock$Fillers;)V"⟩, 4), (⟨"HourClock$Fillers", "add", "(I)V"⟩, 5), (⟨"HourClock$Hour", "tell", "(I)I"⟩, 11), (⟨"HourClock$Fillers", "countThatWait", "()I"⟩, 5), (⟨"HourClock$Elements", "tell", "(II)I"⟩, 6), (⟨"HourClock$Elements", "inSection", "(I)Z"⟩, 6), (⟨"HourClock$Elements", "latestBegin", "(I)I"⟩, 6), (⟨"HourClock$Elements", "begunAt", "(I)I"⟩, 6), (⟨"HourClock$Fillers", "tell", "(II)I"⟩, 5), (⟨"HourClock$Log", "tell", "(II)I"⟩, 4), (⟨"HourClock$Log", "has", "(I)Z"⟩, 4), (⟨"java/lang/Throwable", "fillInStackTrace", "(I)Ljava/lang/Throwable;"⟩, 6), (⟨"HourClock$Hour", "canHaveLength", "(II)Z"⟩, 11), (⟨"HourClock$Hour", "giveLength", "(II)V"⟩, 11), (⟨"HourClock$Fillers", "leastSumAbove", "(I)I"⟩, 5)]
theorem lw_r4 : ∀ q ∈ lw_privs_4, lw_okq q := List.forall_mem_cons.mpr ⟨lw_p48, List.forall_mem_cons.mpr ⟨lw_p49, List.forall_mem_cons.mpr ⟨lw_p50, List.forall_mem_cons.mpr ⟨lw_p51, List.forall_mem_cons.mpr ⟨lw_p52, List.forall_mem_cons.mpr ⟨lw_p53, List.forall_mem_cons.mpr ⟨lw_p54, List.forall_mem_cons.mpr ⟨lw_p55, List.forall_mem_cons.mpr ⟨lw_p56, List.forall_mem_cons.mpr ⟨lw_p57, List.forall_mem_cons.mpr ⟨lw_p58, List.forall_mem_cons.mpr ⟨lw_p59, List.forall_mem_cons.mpr ⟨lw_p60, List.forall_mem_cons.mpr ⟨lw_p61, List.forall_mem_cons.mpr ⟨lw_p62, List.forall_mem_cons.mpr ⟨lw_p63, fun _ h => absurd h List.not_mem_nil⟩⟩⟩⟩⟩⟩⟩⟩⟩⟩⟩⟩⟩⟩⟩⟩
theorem lw_p64 : lw_okq (⟨"HourClock$Text", "put", "(I)V"⟩, 4) := ⟨⟨by decide +kernel, by decide +kernel⟩, List.mem_of_getElem? (i := 190) (by decide +kernel), List.mem_of_getElem? (i := 774) (by decide +kernel), List.mem_of_getElem? (i := 775) (by decide +kernel)⟩
theorem lw_p65 : lw_okq (⟨"HourClockModel", "fails", "(I)I"⟩, 11) := ⟨⟨by decide +kernel, by decide +kernel⟩, List.mem_of_getElem? (i := 786) (by decide +kernel), List.mem_of_getElem? (i := 837) (by decide +kernel), List.mem_of_getElem? (i := 838) (by decide +kernel)⟩
theorem lw_p66 : lw_okq (⟨"HourClockModel", "save", "()V"⟩, 11) := ⟨⟨by decide +kernel, by decide +kernel⟩, List.mem_of_getElem? (i := 786) (by decide +kernel), List.mem_of_getElem? (i := 841) (by decide +kernel), List.mem_of_getElem? (i := 842) (by decide +kernel)⟩
theorem lw_p67 : lw_okq (⟨"HourClockModel", "putElement", "(III)V"⟩, 11) := ⟨⟨by decide +kernel, by decide +kernel⟩, List.mem_of_getElem? (i := 786) (by decide +kernel), List.mem_of_getElem? (i := 845) (by decide +kernel), List.mem_of_getElem? (i := 846) (by decide +kernel)⟩
theorem lw_p68 : lw_okq (⟨"HourClockModel", "putFiller", "(I)V"⟩, 11) := ⟨⟨by decide +kernel, by decide +kernel⟩, List.mem_of_getElem? (i := 786) (by decide +kernel), List.mem_of_getElem? (i := 853) (by decide +kernel), List.mem_of_getElem? (i := 854) (by decide +kernel)⟩
theorem lw_p69 : lw_okq (⟨"HourClockModel", "isElement", "(I)Z"⟩, 11) := ⟨⟨by decide +kernel, by decide +kernel⟩, List.mem_of_getElem? (i := 786) (by decide +kernel), List.mem_of_getElem? (i := 861) (by decide +kernel), List.mem_of_getElem? (i := 862) (by decide +kernel)⟩
theorem lw_p70 : lw_okq (⟨"HourClockModel", "of", "(II)I"⟩, 11) := ⟨⟨by decide +kernel, by decide +kernel⟩, List.mem_of_getElem? (i := 786) (by decide +kernel), List.mem_of_getElem? (i := 865) (by decide +kernel), List.mem_of_getElem? (i := 866) (by decide +kernel)⟩
theorem lw_p71 : lw_okq (⟨"HourClockModel", "canBe", "(II)Z"⟩, 11) := ⟨⟨by decide +kernel, by decide +kernel⟩, List.mem_of_getElem? (i := 786) (by decide +kernel), List.mem_of_getElem? (i := 869) (by decide +kernel), List.mem_of_getElem? (i := 870) (by decide +kernel)⟩
theorem lw_p72 : lw_okq (⟨"HourClockModel", "endsOnAir", "()V"⟩, 11) := ⟨⟨by decide +kernel, by decide +kernel⟩, List.mem_of_getElem? (i := 786) (by decide +kernel), List.mem_of_getElem? (i := 873) (by decide +kernel), List.mem_of_getElem? (i := 874) (by decide +kernel)⟩
theorem lw_p73 : lw_okq (⟨"HourClockModel", "waits", "(I)Z"⟩, 11) := ⟨⟨by decide +kernel, by decide +kernel⟩, List.mem_of_getElem? (i := 786) (by decide +kernel), List.mem_of_getElem? (i := 881) (by decide +kernel), List.mem_of_getElem? (i := 882) (by decide +kernel)⟩
theorem lw_p74 : lw_okq (⟨"HourClockModel", "lets", "(I)V"⟩, 11) := ⟨⟨by decide +kernel, by decide +kernel⟩, List.mem_of_getElem? (i := 786) (by decide +kernel), List.mem_of_getElem? (i := 885) (by decide +kernel), List.mem_of_getElem? (i := 886) (by decide +kernel)⟩
theorem lw_p75 : lw_okq (⟨"HourClockModel", "logs", "(II)V"⟩, 11) := ⟨⟨by decide +kernel, by decide +kernel⟩, List.mem_of_getElem? (i := 786) (by decide +kernel), List.mem_of_getElem? (i := 889) (by decide +kernel), List.mem_of_getElem? (i := 890) (by decide +kernel)⟩
theorem lw_p76 : lw_okq (⟨"HourClockModel", "inStatus", "(I)I"⟩, 11) := ⟨⟨by decide +kernel, by decide +kernel⟩, List.mem_of_getElem? (i := 786) (by decide +kernel), List.mem_of_getElem? (i := 893) (by decide +kernel), List.mem_of_getElem? (i := 894) (by decide +kernel)⟩
theorem lw_p77 : lw_okq (⟨"HourClockModel", "goesOn", "(I)I"⟩, 11) := ⟨⟨by decide +kernel, by decide +kernel⟩, List.mem_of_getElem? (i := 786) (by decide +kernel), List.mem_of_getElem? (i := 901) (by decide +kernel), List.mem_of_getElem? (i := 902) (by decide +kernel)⟩
theorem lw_p78 : lw_okq (⟨"HourClockModel", "finds", "()V"⟩, 11) := ⟨⟨by decide +kernel, by decide +kernel⟩, List.mem_of_getElem? (i := 786) (by decide +kernel), List.mem_of_getElem? (i := 905) (by decide +kernel), List.mem_of_getElem? (i := 906) (by decide +kernel)⟩
theorem lw_p79 : lw_okq (⟨"HourClockModel", "nextFixed", "(I)I"⟩, 11) := ⟨⟨by decide +kernel, by decide +kernel⟩, List.mem_of_getElem? (i := 786) (by decide +kernel), List.mem_of_getElem? (i := 909) (by decide +kernel), List.mem_of_getElem? (i := 910) (by decide +kernel)⟩
def lw_privs_5 : List (MethodName × Nat) := [(⟨"HourClock$Text", "put", "(I)V"⟩, 4), (⟨"HourClockModel", "fails", "(I)I"⟩, 11), (⟨"HourClockModel", "save", "()V"⟩, 11), (⟨"HourClockModel", "putElement", "(III)V"⟩, 11), (⟨"HourClockModel", "putFiller", "(I)V"⟩, 11), (⟨"HourClockModel", "isElement", "(I)Z"⟩, 11), (⟨"HourClockModel", "of", "(II)I"⟩, 11), (⟨"HourClockModel", "canBe", "(II)Z"⟩, 11), (⟨"HourClockModel", "endsOnAir", "()V"⟩, 11), (⟨"HourClockModel", "waits", "(I)Z"⟩, 11), (⟨"HourClockModel", "lets", "(I)V"⟩, 11), (⟨"HourClockModel", "logs", "(II)V"⟩, 11), (⟨"HourClockModel", "inStatus", "(I)I"⟩, 11), (⟨"HourClockModel", "goesOn", "(I)I"⟩, 11), (⟨"HourClockModel", "finds", "()V"⟩, 11), (⟨"HourClockModel", "nextFixed", "(I)I"⟩, 11)]
theorem lw_r5 : ∀ q ∈ lw_privs_5, lw_okq q := List.forall_mem_cons.mpr ⟨lw_p64, List.forall_mem_cons.mpr ⟨lw_p65, List.forall_mem_cons.mpr ⟨lw_p66, List.forall_mem_cons.mpr ⟨lw_p67, List.forall_mem_cons.mpr ⟨lw_p68, List.forall_mem_cons.mpr ⟨lw_p69, List.forall_mem_cons.mpr ⟨lw_p70, List.forall_mem_cons.mpr ⟨lw_p71, List.forall_mem_cons.mpr ⟨lw_p72, List.forall_mem_cons.mpr ⟨lw_p73, List.forall_mem_cons.mpr ⟨lw_p74, List.forall_mem_cons.mpr ⟨lw_p75, List.forall_mem_cons.mpr ⟨lw_p76, List.forall_mem_cons.mpr ⟨lw_p77, List.forall_mem_cons.mpr ⟨lw_p78, List.forall_mem_cons.mpr ⟨lw_p79, fun _ h => absurd h List.not_mem_nil⟩⟩⟩⟩⟩⟩⟩⟩⟩⟩⟩⟩⟩⟩⟩⟩
theorem lw_p80 : lw_okq (⟨"HourClockModel", "isFixed", "(I)Z"⟩, 11) := ⟨⟨by decide +kernel, by decide +kernel⟩, List.mem_of_getElem? (i := 786) (by decide +kernel), List.mem_of_getElem? (i := 913) (by decide +kernel), List.mem_of_getElem? (i := 914) (by decide +kernel)⟩
theorem lw_p81 : lw_okq (⟨"HourClockModel", "timeAt", "(I)I"⟩, 11) := ⟨⟨by decide +kernel, by decide +kernel⟩, List.mem_of_getElem? (i := 786) (by decide +kernel), List.mem_of_getElem? (i := 917) (by decide +kernel), List.mem_of_getElem? (i := 918) (by decide +kernel)⟩
theorem lw_p82 : lw_okq (⟨"HourClockModel", "lowest", "(I)I"⟩, 11) := ⟨⟨by decide +kernel, by decide +kernel⟩, List.mem_of_getElem? (i := 786) (by decide +kernel), List.mem_of_getElem? (i := 921) (by decide +kernel), List.mem_of_getElem? (i := 922) (by decide +kernel)⟩
theorem lw_p83 : lw_okq (⟨"HourClockModel", "sectionLength", "(I)I"⟩, 11) := ⟨⟨by decide +kernel, by decide +kernel⟩, List.mem_of_getElem? (i := 786) (by decide +kernel), List.mem_of_getElem? (i := 925) (by decide +kernel), List.mem_of_getElem? (i := 926) (by decide +kernel)⟩
theorem lw_p84 : lw_okq (⟨"HourClockModel", "firstWaiting", "(I)I"⟩, 11) := ⟨⟨by decide +kernel, by decide +kernel⟩, List.mem_of_getElem? (i := 786) (by decide +kernel), List.mem_of_getElem? (i := 929) (by decide +kernel), List.mem_of_getElem? (i := 930) (by decide +kernel)⟩
theorem lw_p85 : lw_okq (⟨"HourClockModel", "beginsElement", "(I)V"⟩, 11) := ⟨⟨by decide +kernel, by decide +kernel⟩, List.mem_of_getElem? (i := 786) (by decide +kernel), List.mem_of_getElem? (i := 933) (by decide +kernel), List.mem_of_getElem? (i := 934) (by decide +kernel)⟩
theorem lw_p86 : lw_okq (⟨"HourClockModel", "goesOnAir", "(III)V"⟩, 11) := ⟨⟨by decide +kernel, by decide +kernel⟩, List.mem_of_getElem? (i := 786) (by decide +kernel), List.mem_of_getElem? (i := 937) (by decide +kernel), List.mem_of_getElem? (i := 938) (by decide +kernel)⟩
theorem lw_p87 : lw_okq (⟨"HourClockModel", "chosen", "(I)I"⟩, 11) := ⟨⟨by decide +kernel, by decide +kernel⟩, List.mem_of_getElem? (i := 786) (by decide +kernel), List.mem_of_getElem? (i := 941) (by decide +kernel), List.mem_of_getElem? (i := 942) (by decide +kernel)⟩
theorem lw_p88 : lw_okq (⟨"HourClockModel", "waitingFillers", "()I"⟩, 11) := ⟨⟨by decide +kernel, by decide +kernel⟩, List.mem_of_getElem? (i := 786) (by decide +kernel), List.mem_of_getElem? (i := 945) (by decide +kernel), List.mem_of_getElem? (i := 946) (by decide +kernel)⟩
theorem lw_p89 : lw_okq (⟨"HourClockModel", "ofFiller", "(II)I"⟩, 11) := ⟨⟨by decide +kernel, by decide +kernel⟩, List.mem_of_getElem? (i := 786) (by decide +kernel), List.mem_of_getElem? (i := 949) (by decide +kernel), List.mem_of_getElem? (i := 950) (by decide +kernel)⟩
theorem lw_p90 : lw_okq (⟨"HourClockModel", "lengthOf", "(I)I"⟩, 11) := ⟨⟨by decide +kernel, by decide +kernel⟩, List.mem_of_getElem? (i := 786) (by decide +kernel), List.mem_of_getElem? (i := 953) (by decide +kernel), List.mem_of_getElem? (i := 954) (by decide +kernel)⟩
theorem lw_p91 : lw_okq (⟨"HourClockModel", "beginsFiller", "(I)V"⟩, 11) := ⟨⟨by decide +kernel, by decide +kernel⟩, List.mem_of_getElem? (i := 786) (by decide +kernel), List.mem_of_getElem? (i := 963) (by decide +kernel), List.mem_of_getElem? (i := 964) (by decide +kernel)⟩
theorem lw_p92 : lw_okq (⟨"HourClockModel", "begins", "()V"⟩, 11) := ⟨⟨by decide +kernel, by decide +kernel⟩, List.mem_of_getElem? (i := 786) (by decide +kernel), List.mem_of_getElem? (i := 976) (by decide +kernel), List.mem_of_getElem? (i := 977) (by decide +kernel)⟩
theorem lw_p93 : lw_okq (⟨"HourClockModel", "elementOf", "(II)I"⟩, 11) := ⟨⟨by decide +kernel, by decide +kernel⟩, List.mem_of_getElem? (i := 786) (by decide +kernel), List.mem_of_getElem? (i := 984) (by decide +kernel), List.mem_of_getElem? (i := 985) (by decide +kernel)⟩
theorem lw_p94 : lw_okq (⟨"HourClockModel", "latenessOf", "(I)I"⟩, 11) := ⟨⟨by decide +kernel, by decide +kernel⟩, List.mem_of_getElem? (i := 786) (by decide +kernel), List.mem_of_getElem? (i := 988) (by decide +kernel), List.mem_of_getElem? (i := 989) (by decide +kernel)⟩
theorem lw_p95 : lw_okq (⟨"HourClockModel", "isInSection", "(I)Z"⟩, 11) := ⟨⟨by decide +kernel, by decide +kernel⟩, List.mem_of_getElem? (i := 786) (by decide +kernel), List.mem_of_getElem? (i := 992) (by decide +kernel), List.mem_of_getElem? (i := 993) (by decide +kernel)⟩
def lw_privs_6 : List (MethodName × Nat) := [(⟨"HourClockModel", "isFixed", "(I)Z"⟩, 11), (⟨"HourClockModel", "timeAt", "(I)I"⟩, 11), (⟨"HourClockModel", "lowest", "(I)I"⟩, 11), (⟨"HourClockModel", "sectionLength", "(I)I"⟩, 11), (⟨"HourClockModel", "firstWaiting", "(I)I"⟩, 11), (⟨"HourClockModel", "beginsElement", "(I)V"⟩, 11), (⟨"HourClockModel", "goesOnAir", "(III)V"⟩, 11), (⟨"HourClockModel", "chosen", "(I)I"⟩, 11), (⟨"HourClockModel", "waitingFillers", "()I"⟩, 11), (⟨"HourClockModel", "ofFiller", "(II)I"⟩, 11), (⟨"HourClockModel", "lengthOf", "(I)I"⟩, 11), (⟨"HourClockModel", "beginsFiller", "(I)V"⟩, 11), (⟨"HourClockModel", "begins", "()V"⟩, 11), (⟨"HourClockModel", "elementOf", "(II)I"⟩, 11), (⟨"HourClockModel", "latenessOf", "(I)I"⟩, 11), (⟨"HourClockModel", "isInSection", "(I)Z"⟩, 11)]
theorem lw_r6 : ∀ q ∈ lw_privs_6, lw_okq q := List.forall_mem_cons.mpr ⟨lw_p80, List.forall_mem_cons.mpr ⟨lw_p81, List.forall_mem_cons.mpr ⟨lw_p82, List.forall_mem_cons.mpr ⟨lw_p83, List.forall_mem_cons.mpr ⟨lw_p84, List.forall_mem_cons.mpr ⟨lw_p85, List.forall_mem_cons.mpr ⟨lw_p86, List.forall_mem_cons.mpr ⟨lw_p87, List.forall_mem_cons.mpr ⟨lw_p88, List.forall_mem_cons.mpr ⟨lw_p89, List.forall_mem_cons.mpr ⟨lw_p90, List.forall_mem_cons.mpr ⟨lw_p91, List.forall_mem_cons.mpr ⟨lw_p92, List.forall_mem_cons.mpr ⟨lw_p93, List.forall_mem_cons.mpr ⟨lw_p94, List.forall_mem_cons.mpr ⟨lw_p95, fun _ h => absurd h List.not_mem_nil⟩⟩⟩⟩⟩⟩⟩⟩⟩⟩⟩⟩⟩⟩⟩⟩
theorem lw_p96 : lw_okq (⟨"HourClockModel", "tells", "(I)I"⟩, 11) := ⟨⟨by decide +kernel, by decide +kernel⟩, List.mem_of_getElem? (i := 786) (by decide +kernel), List.mem_of_getElem? (i := 996) (by decide +kernel), List.mem_of_getElem? (i := 997) (by decide +kernel)⟩
theorem lw_p97 : lw_okq (⟨"HourClockModel", "isFiller", "(I)Z"⟩, 11) := ⟨⟨by decide +kernel, by decide +kernel⟩, List.mem_of_getElem? (i := 786) (by decide +kernel), List.mem_of_getElem? (i := 1004) (by decide +kernel), List.mem_of_getElem? (i := 1005) (by decide +kernel)⟩
theorem lw_p98 : lw_okq (⟨"HourClockModel", "valueOf", "(I)I"⟩, 11) := ⟨⟨by decide +kernel, by decide +kernel⟩, List.mem_of_getElem? (i := 786) (by decide +kernel), List.mem_of_getElem? (i := 1012) (by decide +kernel), List.mem_of_getElem? (i := 1013) (by decide +kernel)⟩
theorem lw_p99 : lw_okq (⟨"HourClockModel", "goal", "()I"⟩, 11) := ⟨⟨by decide +kernel, by decide +kernel⟩, List.mem_of_getElem? (i := 786) (by decide +kernel), List.mem_of_getElem? (i := 1016) (by decide +kernel), List.mem_of_getElem? (i := 1017) (by decide +kernel)⟩
theorem lw_p100 : lw_okq (⟨"HourClockModel", "greatest", "()I"⟩, 11) := ⟨⟨by decide +kernel, by decide +kernel⟩, List.mem_of_getElem? (i := 786) (by decide +kernel), List.mem_of_getElem? (i := 1020) (by decide +kernel), List.mem_of_getElem? (i := 1021) (by decide +kernel)⟩
theorem lw_p101 : lw_okq (⟨"HourClockModel", "backOf", "(I)I"⟩, 11) := ⟨⟨by decide +kernel, by decide +kernel⟩, List.mem_of_getElem? (i := 786) (by decide +kernel), List.mem_of_getElem? (i := 1032) (by decide +kernel), List.mem_of_getElem? (i := 1033) (by decide +kernel)⟩
theorem lw_p102 : lw_okq (⟨"HourClockModel", "foresees", "()V"⟩, 11) := ⟨⟨by decide +kernel, by decide +kernel⟩, List.mem_of_getElem? (i := 786) (by decide +kernel), List.mem_of_getElem? (i := 1040) (by decide +kernel), List.mem_of_getElem? (i := 1041) (by decide +kernel)⟩
theorem lw_p103 : lw_okq (⟨"HourClockModel", "fullAbove", "(I)I"⟩, 11) := ⟨⟨by decide +kernel, by decide +kernel⟩, List.mem_of_getElem? (i := 786) (by decide +kernel), List.mem_of_getElem? (i := 1067) (by decide +kernel), List.mem_of_getElem? (i := 1068) (by decide +kernel)⟩
theorem lw_p104 : lw_okq (⟨"HourClockModel", "doneThen", "()I"⟩, 11) := ⟨⟨by decide +kernel, by decide +kernel⟩, List.mem_of_getElem? (i := 786) (by decide +kernel), List.mem_of_getElem? (i := 1075) (by decide +kernel), List.mem_of_getElem? (i := 1076) (by decide +kernel)⟩
theorem lw_p105 : lw_okq (⟨"HourClockModel", "reads", "()Z"⟩, 11) := ⟨⟨by decide +kernel, by decide +kernel⟩, List.mem_of_getElem? (i := 786) (by decide +kernel), List.mem_of_getElem? (i := 1095) (by decide +kernel), List.mem_of_getElem? (i := 1096) (by decide +kernel)⟩
theorem lw_p106 : lw_okq (⟨"HourClockModel", "isAt", "(II)Z"⟩, 11) := ⟨⟨by decide +kernel, by decide +kernel⟩, List.mem_of_getElem? (i := 786) (by decide +kernel), List.mem_of_getElem? (i := 1099) (by decide +kernel), List.mem_of_getElem? (i := 1100) (by decide +kernel)⟩
theorem lw_p107 : lw_okq (⟨"HourClockModel", "readsFiller", "()Z"⟩, 11) := ⟨⟨by decide +kernel, by decide +kernel⟩, List.mem_of_getElem? (i := 786) (by decide +kernel), List.mem_of_getElem? (i := 1103) (by decide +kernel), List.mem_of_getElem? (i := 1104) (by decide +kernel)⟩
theorem lw_p108 : lw_okq (⟨"HourClockModel", "readsNumber", "(III)Z"⟩, 11) := ⟨⟨by decide +kernel, by decide +kernel⟩, List.mem_of_getElem? (i := 786) (by decide +kernel), List.mem_of_getElem? (i := 1107) (by decide +kernel), List.mem_of_getElem? (i := 1108) (by decide +kernel)⟩
theorem lw_p109 : lw_okq (⟨"HourClockModel", "takes", "(I)Z"⟩, 11) := ⟨⟨by decide +kernel, by decide +kernel⟩, List.mem_of_getElem? (i := 786) (by decide +kernel), List.mem_of_getElem? (i := 1111) (by decide +kernel), List.mem_of_getElem? (i := 1112) (by decide +kernel)⟩
theorem lw_p110 : lw_okq (⟨"HourClockModel", "readsElement", "()Z"⟩, 11) := ⟨⟨by decide +kernel, by decide +kernel⟩, List.mem_of_getElem? (i := 786) (by decide +kernel), List.mem_of_getElem? (i := 1115) (by decide +kernel), List.mem_of_getElem? (i := 1116) (by decide +kernel)⟩
theorem lw_p111 : lw_okq (⟨"HourClockModel", "mix", "(I)V"⟩, 11) := ⟨⟨by decide +kernel, by decide +kernel⟩, List.mem_of_getElem? (i := 786) (by decide +kernel), List.mem_of_getElem? (i := 1128) (by decide +kernel), List.mem_of_getElem? (i := 1129) (by decide +kernel)⟩
def lw_privs_7 : List (MethodName × Nat) := [(⟨"HourClockModel", "tells", "(I)I"⟩, 11), (⟨"HourClockModel", "isFiller", "(I)Z"⟩, 11), (⟨"HourClockModel", "valueOf", "(I)I"⟩, 11), (⟨"HourClockModel", "goal", "()I"⟩, 11), (⟨"HourClockModel", "greatest", "()I"⟩, 11), (⟨"HourClockModel", "backOf", "(I)I"⟩, 11), (⟨"HourClockModel", "foresees", "()V"⟩, 11), (⟨"HourClockModel", "fullAbove", "(I)I"⟩, 11), (⟨"HourClockModel", "doneThen", "()I"⟩, 11), (⟨"HourClockModel", "reads", "()Z"⟩, 11), (⟨"HourClockModel", "isAt", "(II)Z"⟩, 11), (⟨"HourClockModel", "readsFiller", "()Z"⟩, 11), (⟨"HourClockModel", "readsNumber", "(III)Z"⟩, 11), (⟨"HourClockModel", "takes", "(I)Z"⟩, 11), (⟨"HourClockModel", "readsElement", "()Z"⟩, 11), (⟨"HourClockModel", "mix", "(I)V"⟩, 11)]
theorem lw_r7 : ∀ q ∈ lw_privs_7, lw_okq q := List.forall_mem_cons.mpr ⟨lw_p96, List.forall_mem_cons.mpr ⟨lw_p97, List.forall_mem_cons.mpr ⟨lw_p98, List.forall_mem_cons.mpr ⟨lw_p99, List.forall_mem_cons.mpr ⟨lw_p100, List.forall_mem_cons.mpr ⟨lw_p101, List.forall_mem_cons.mpr ⟨lw_p102, List.forall_mem_cons.mpr ⟨lw_p103, List.forall_mem_cons.mpr ⟨lw_p104, List.forall_mem_cons.mpr ⟨lw_p105, List.forall_mem_cons.mpr ⟨lw_p106, List.forall_mem_cons.mpr ⟨lw_p107, List.forall_mem_cons.mpr ⟨lw_p108, List.forall_mem_cons.mpr ⟨lw_p109, List.forall_mem_cons.mpr ⟨lw_p110, List.forall_mem_cons.mpr ⟨lw_p111, fun _ h => absurd h List.not_mem_nil⟩⟩⟩⟩⟩⟩⟩⟩⟩⟩⟩⟩⟩⟩⟩⟩
def lw_privs : List (MethodName × Nat) := lw_privs_1 ++ (lw_privs_2 ++ (lw_privs_3 ++ (lw_privs_4 ++ (lw_privs_5 ++ (lw_privs_6 ++ (lw_privs_7))))))
def lw_tbl : List Cond := k2_sels lw_privs ++ tables_1
theorem lw_privs_ok : ∀ q ∈ lw_privs, lw_okq q := by
  show ∀ q ∈ lw_privs_1 ++ (lw_privs_2 ++ (lw_privs_3 ++ (lw_privs_4 ++ (lw_privs_5 ++ (lw_privs_6 ++ (lw_privs_7)))))), lw_okq q
  exact List.forall_mem_append.mpr ⟨lw_r1, List.forall_mem_append.mpr ⟨lw_r2, List.forall_mem_append.mpr ⟨lw_r3, List.forall_mem_append.mpr ⟨lw_r4, List.forall_mem_append.mpr ⟨lw_r5, List.forall_mem_append.mpr ⟨lw_r6, lw_r7⟩⟩⟩⟩⟩⟩
/-- the streams that the claim lets the run draw from -/
abbrev lw_cs : List Choice := [Jvm.Choice.named "NaN.bits"]
theorem lw_bits : nanBits ∈ lw_cs := by first | decide | exact List.mem_cons_self | simp [lw_cs, nanBits]
-- ===== end of PART A; then your names; then what follows =====
end
section
/-! ===== BEGIN words of one list among another's, by their places ===== -/
theorem goodIn_r {big : List Cond} (ws : List Cond) (ps : List Nat) (hp : ws = ps.filterMap (fun i => big[i]?)) (h : ws.all goodWord = true) : GoodIn big ws := by
  intro w hw
  have h1 := List.all_eq_true.mp h w hw
  rw [hp] at hw
  obtain ⟨i, -, hi⟩ := List.mem_filterMap.mp hw
  have hm : w ∈ big := by first | exact List.mem_of_getElem? hi | exact List.getElem?_mem hi
  exact ⟨hm, good_of_word h1⟩
theorem goodIn_app {big a b : List Cond} (ha : GoodIn big a) (hb : GoodIn big b) : GoodIn big (a ++ b) := fun w h => (List.mem_append.mp h).elim (ha w) (hb w)
theorem goodIn_ca {big a b : List Cond} {c : Cond} (ha : GoodIn big (c :: a)) (hb : GoodIn big b) : GoodIn big (c :: (a ++ b)) := fun w h => (List.mem_cons.mp h).elim (fun e => ha w (List.mem_cons.mpr (Or.inl e))) (fun h => (List.mem_append.mp h).elim (fun h => ha w (List.mem_cons.mpr (Or.inr h))) (hb w))
theorem goodIn_sub {big ws : List Cond} (hm : ∀ w ∈ ws, w ∈ big) (h : ws.all goodWord = true) : GoodIn big ws := fun w hw => ⟨hm w hw, good_of_word (List.all_eq_true.mp h w hw)⟩
/-! ===== END ===== -/

/-! ===== BEGIN exceptions that leave a method, and their catching by the caller (launches without stack traces) ===== -/
section VXA
/-! The laws vx_back, vx_callV, vx_callS, vx_callSW, vx_throw0, vx_throwS follow proofs of the library, with one case more: JvmDerived/Free/Laws.lean (Back.of_free), Shelf42/LK1.lean (callV, callS), Shelf/KitTraced.lean (throwNew0V, throwNewS). -/
/-- where a method has thrown q: the class by its name, the cell, what was written, the world -/
def vx_T (XC : String → State → State → Prop) (st : State) (q : Addr) (t : State) (mc ms : Nat) (free : Addr → Prop) : Prop :=
  ∃ (E : String) (ce : Cell) (L : List Loc), XC E st t ∧ t.heap[q]? = some ce ∧ ce.vm = .none ∧ st.vm.findClass E = some ce.cls ∧ st.WarmedH t.vm ∧ st.sameButNew ({ t with vm := st.vm } : State) L mc ms ∧ ∀ z ∈ L, free z.base
def vx_Q (Qc : Array Value → State → Outcome → State → Prop) (XC : String → State → State → Prop) (mc ms : Nat) (free : Addr → Prop) : Array Value → State → Outcome → State → Prop := fun a st o t =>
  (Qc a st o t ∧ ∃ L, FrameEnd st o t L mc ms ∧ ∀ q ∈ L, free q.base) ∨ ∃ q, o = .threw q ∧ vx_T XC st q t mc ms free
/-- a callee that returns or throws -/
def vx_Met (l : Launch) (y : MethodName) (ws : List Cond) (rm : Room) (Pc : Array Value → State → Prop) (Qc : Array Value → State → Outcome → State → Prop) (XC : String → State → State → Prop) (mc ms : Nat) (free : Addr → Prop) : Prop :=
  MetFree l y (headSpec ws rm) Pc (fun _ _ _ _ _ => True) (vx_Q Qc XC mc ms free)
def vx_Post (XC : String → State → State → Prop) (mc ms : Nat) (free : Addr → Prop) : Pt → Array Value → Addr → Pt → Prop := fun A a q B =>
  ∃ (g : JFrame) (mk : MethodId) (t : State) (L : List Loc) (E : String) (ce : Cell), B.U.heap = t.heap ∧ B.U.vm = t.vm ∧ XC E (A.U.calling g mk a) t ∧ t.heap[q]? = some ce ∧ ce.vm = .none ∧ A.U.vm.findClass E = some ce.cls ∧ B.locs = A.locs ++ L ∧ (∀ z ∈ L, free z.base) ∧ B.cells = A.cells + mc ∧ B.slots = A.slots + ms
def vx_Back (l : Launch) (R : Room) (p : Program) (e : Env) (below : List Frame) (s : State) (sargs : Array Value) (y : MethodName) (len W9 : Nat)
    (Pre : Pt → Array Value → Prop) (Post : Pt → Array Value → Option Value → Pt → Prop) (PostX : Pt → Array Value → Addr → Pt → Prop) : Prop :=
  ∀ (m : MethodId) (meth : Method) (c : Code) (A : Pt) (g : JFrame) (ig : Instr) (mk : MethodId) (a : Array Value),
    Stand p l e R s m sargs below meth c A.U A.locs A.cells A.slots → g.method = m → g.locals.size = c.maxLocals → decode c.code g.pc = .ok (ig, len) →
    2 * g.monitorRoom + (g.stack.map fun v => v.category).sum ≤ W9 → A.U.methodNamed? y = some mk → Pre A a →
    (∃ (v : Option Value) (B : Pt), Stand p l e R s m sargs below meth c B.U B.locs B.cells B.slots ∧ Post A a v B ∧
      Steps p.tables e below (doInvoke e (A.U.setTop g) [] mk a).1 (B.U.setTop { g with pc := g.pc + len, stack := v.toList ++ g.stack })) ∨
    (∃ (q : Addr) (B : Pt), Stand p l e R s m sargs below meth c B.U B.locs B.cells B.slots ∧ PostX A a q B ∧
      Steps p.tables e below (doInvoke e (A.U.setTop g) [] mk a).1 ((B.U.setTop g).pushFrame (.throwing q)))
section Payer
variable {l : Launch} {R : Room} {p : Program} {e : Env} {below : List Frame} {s : State} {sargs : Array Value} {y : MethodName} {len W9 : Nat}
theorem vx_back {ws : List Cond} {rm : Room} {Pc : Array Value → State → Prop} {Qc : Array Value → State → Outcome → State → Prop} {XC : String → State → State → Prop} {mc ms : Nat} {free : Addr → Prop} {bytes : ByteArray} {maxL : Nat} {ret : Option FieldType}
    (hM : vx_Met l y ws rm Pc Qc XC mc ms free) (hblind : FrameBlind Pc) (hrc : rm.cells = mc) (hrs : rm.slots = ms)
    (hframes : rm.frames + 1 ≤ R.frames) (hlocals : W9 + (maxL + 11) + rm.locals ≤ R.locals)
    (hws : ∀ w ∈ ws, ∀ a' U, s.WarmedH U.vm → w.before a' U = true) (hcode : Cond.code y bytes maxL ret ∈ ws) (hinit : ∀ a' U, s.WarmedH U.vm → (Cond.initialized y.cls).before a' U = true) :
    vx_Back l R p e below s sargs y len W9 (PreOf R mc ms Pc) (PostOf Qc mc ms free) (vx_Post XC mc ms free) := by
  intro m meth c A g ig mk a X hg hsize hdg hW hn hp
  have h1 : (headSpec ws rm).pre.before a A.U = true := atoms_intro fun w hw => hws w hw _ _ X.warmed
  have h2 : (Cond.code y bytes maxL ret).before a A.U = true := hws _ hcode _ _ X.warmed
  have h3 : (Cond.initialized y.cls).before a A.U = true := hinit _ _ X.warmed
  have h4 : A.cells + (headSpec ws rm).room.cells ≤ R.cells := by rw [show (headSpec ws rm).room.cells = mc from hrc]; exact hp.1
  have h5 : A.slots + (headSpec ws rm).room.slots ≤ R.slots := by rw [show (headSpec ws rm).room.slots = ms from hrs]; exact hp.2.1
  have hPc : Pc a (A.U.calling g mk a) := hblind _ _ _ _ hp.2.2
  obtain ⟨U, Ls, c0, s0⟩ := A
  dsimp only [Pt.U, Pt.locs, Pt.cells, Pt.slots] at h1 h2 h3 h4 h5 X hn hPc ⊢
  obtain ⟨methY, cY, hmY, hcY, -, hlY, -, -, -, -⟩ := Cond.code_spec hn h2
  obtain ⟨kY, hkY, -⟩ := className_of_methodNamed hn
  have hinitY : kY.init = .initialized := Cond.initialized_spec (findClass_of_methodNamed hn) hkY h3
  have h : At U g.method c below := by rw [hg]; exact X.here
  have hlocals9 : W9 + (maxL + 11) + (headSpec ws rm).room.locals ≤ R.locals := hlocals
  have happ : (headSpec ws rm).appliesLoose y e.platform (U.calling g mk a) = true :=
    Spec.appliesLoose_calling (g := g) h hdg hn hkY hinitY
      (X.room_calling (g := g) (R' := (headSpec ws rm).room) hsize hmY hcY hframes (by rw [hlY]; omega) h4 h5) h1
  obtain ⟨mid, hmid⟩ := h.above
  have hfr : (U.setTop g).frames = (.java g :: mid) ++ below := by rw [State.frames_setTop' g h.top, hmid]; rfl
  obtain ⟨o, s₂, hsteps, -, hend, hq⟩ := Steps.callFree hM p X.admits X.cas X.clock (acts := []) hfr happ hPc trivial
  have hq' : vx_Q Qc XC mc ms free a (U.calling g mk a) o s₂ := hq
  rw [State.frames_setTop' g h.top] at hend
  obtain ⟨g₀, hg0⟩ := Option.isSome_iff_exists.mp h.top
  obtain ⟨r, hr⟩ := State.topJava?_eq_some.mp hg0
  have hr' : (({ U with heap := s₂.heap, slotsUsed := s₂.slotsUsed } : State).setVm s₂.vm).frames = .java g₀ :: r := hr
  rcases hq' with ⟨hqc, L, hfe, hL⟩ | ⟨q, rfl, E, ce, L, hx, hce, hcv, hcl, hW₂, hsm, hL⟩
  · obtain ⟨⟨v, rfl⟩, hW₂, e2, q2, q3, q4, q5, q6⟩ := id hfe
    have e3 : s₂ = ({ (U.calling g mk a).setFrames s₂.frames with heap := s₂.heap, slotsUsed := s₂.slotsUsed } : State).setVm s₂.vm := by
      have : s₂ = ({ s₂ with vm := (U.calling g mk a).vm } : State).setVm s₂.vm := rfl
      rw [e2] at this
      exact this
    obtain ⟨c₂, i₂, len₂, hc₂, hd₂, hf₂⟩ := hend
    have hW' : U.WarmedH s₂.vm := hW₂
    have hcc : c₂ = c := by
      have h1 : s₂.code? g.method = U.code? g.method := by
        rw [State.code?_eq, State.code?_eq, hW'.alike.method?]
      exact Option.some.inj (hc₂.symm.trans (h1.trans h.code))
    subst hcc
    have hlen : len₂ = len := by rw [hdg] at hd₂; cases hd₂; rfl
    subst hlen
    have hs₂ : s₂ = (({ U with heap := s₂.heap, slotsUsed := s₂.slotsUsed } : State).setVm s₂.vm).setTop { g with pc := g.pc + len₂, stack := v.toList ++ g.stack } := by
      refine e3.trans ?_
      rw [hf₂, State.calling_eq h.top, State.setFrames_setFrames, State.setTop_of_frames _ hr', hr]
      rfl
    have hsame : U.sameButNew ({ U with heap := s₂.heap, slotsUsed := s₂.slotsUsed } : State) L mc ms := by
      refine ⟨?_, q2, q3, q4, q5, q6⟩
      obtain ⟨t, ht, -⟩ := State.frames_cons hr
      show ({ U with heap := s₂.heap, slotsUsed := s₂.slotsUsed } : State) = { U.setFrames U.frames with heap := s₂.heap, slotsUsed := s₂.slotsUsed }
      rw [State.setFrames_self ht]
    subst hg
    refine Or.inl ⟨v, ⟨(({ U with heap := s₂.heap, slotsUsed := s₂.slotsUsed } : State).setVm s₂.vm), Ls ++ L, c0 + mc, s0 + ms⟩,
      ⟨X.admits, X.cas, X.clock, X.frames, X.room, X.hears, X.method, X.code, (X.here.setHeapUsed s₂.heap s₂.slotsUsed).setVm hW'.alike, X.tail, State.WarmedH.trans X.warmed hW', X.limits, X.bytes, X.same.trans (hsame.setVm s.vm)⟩,
      ⟨g, mk, s₂, L, rfl, rfl, hqc, rfl, hL, rfl, rfl⟩, ?_⟩
    show Steps p.tables e below _ ((({ U with heap := s₂.heap, slotsUsed := s₂.slotsUsed } : State).setVm s₂.vm).setTop { g with pc := g.pc + len₂, stack := v.toList ++ g.stack })
    rw [← hs₂]
    exact hsteps
  · obtain ⟨e2, q2, q3, q4, q5, q6⟩ := id hsm
    have e3 : s₂ = ({ (U.calling g mk a).setFrames s₂.frames with heap := s₂.heap, slotsUsed := s₂.slotsUsed } : State).setVm s₂.vm := by
      have : s₂ = ({ s₂ with vm := (U.calling g mk a).vm } : State).setVm s₂.vm := rfl
      rw [e2] at this
      exact this
    have hf₂ : s₂.frames = .throwing q :: .java g :: U.frames.tail := hend
    have hW' : U.WarmedH s₂.vm := hW₂
    have hs₂ : s₂ = ((({ U with heap := s₂.heap, slotsUsed := s₂.slotsUsed } : State).setVm s₂.vm).setTop g).pushFrame (.throwing q) := by
      refine e3.trans ?_
      rw [hf₂, State.calling_eq h.top, State.setFrames_setFrames, State.pushFrame, State.frames_setTop _ hr', State.setTop_of_frames _ hr', State.setFrames_setFrames, hr]
      rfl
    have hsame : U.sameButNew ({ U with heap := s₂.heap, slotsUsed := s₂.slotsUsed } : State) L mc ms := by
      refine ⟨?_, q2, q3, q4, q5, q6⟩
      obtain ⟨t, ht, -⟩ := State.frames_cons hr
      show ({ U with heap := s₂.heap, slotsUsed := s₂.slotsUsed } : State) = { U.setFrames U.frames with heap := s₂.heap, slotsUsed := s₂.slotsUsed }
      rw [State.setFrames_self ht]
    subst hg
    refine Or.inr ⟨q, ⟨(({ U with heap := s₂.heap, slotsUsed := s₂.slotsUsed } : State).setVm s₂.vm), Ls ++ L, c0 + mc, s0 + ms⟩,
      ⟨X.admits, X.cas, X.clock, X.frames, X.room, X.hears, X.method, X.code, (X.here.setHeapUsed s₂.heap s₂.slotsUsed).setVm hW'.alike, X.tail, State.WarmedH.trans X.warmed hW', X.limits, X.bytes, X.same.trans (hsame.setVm s.vm)⟩,
      ⟨g, mk, s₂, L, E, ce, rfl, rfl, hx, hce, hcv, hcl, rfl, hL, rfl, rfl⟩, ?_⟩
    show Steps p.tables e below _ (((({ U with heap := s₂.heap, slotsUsed := s₂.slotsUsed } : State).setVm s₂.vm).setTop g).pushFrame (.throwing q))
    rw [← hs₂]
    exact hsteps
end Payer
section Calls
variable {p : Program} {l : Launch} {e : Env} {R : Room} {s : State} {m : MethodId} {args : Array Value} {below : List Frame} {meth : Method} {c : Code} {T : State} {locs : List Loc} {cells slots : Nat}
theorem vx_callV (X : Stand p l e R s m args below meth c T locs cells slots) (hexec : p.tables.exec = Jvm.exec) {own C : String} {index : Nat} {y : MethodName} {bytes : ByteArray} {maxL : Nat} {ret : Option FieldType}
    (hown : s.vm.findClass own = some m.cls) (hlink : (Cond.methodLink own index y).before args s = true) (hinst : (Cond.instanceMethod y).before args s = true) (hsel : (Cond.selects C y y).before args s = true)
    (hcode : (Cond.code y bytes maxL ret).before args s = true) (hy : y.cls ≠ "java/lang/invoke/MethodHandle" ∧ y.cls ≠ "java/lang/invoke/VarHandle")
    {W9 : Nat} {Pre : Pt → Array Value → Prop} {Post : Pt → Array Value → Option Value → Pt → Prop} {PostX : Pt → Array Value → Addr → Pt → Prop} (hK : vx_Back l R p e below s args y 3 W9 Pre Post PostX)
    {b : Addr} {cellB : Cell} (hcell : T.heap[b]? = some cellB) (hobj : cellB.vm.isStatics = false) (hcls : s.vm.findClass C = some cellB.cls)
    {g : JFrame} (hg : g.method = m) (hsize : g.locals.size = c.maxLocals) {argsL rest : List Value} (hlen : ∀ sig, parseMethodDescriptor y.desc = some sig → argsL.length = sig.parameters.length)
    (hstack : g.stack = argsL.reverse ++ .ref b :: rest) (hW : 2 * g.monitorRoom + (rest.map fun v => v.category).sum ≤ W9) (hdg : decode c.code g.pc = .ok (.invokevirtual index, 3))
    (hpre : ∀ vm₁, s.WarmedH vm₁ → Pre ⟨T.setVm vm₁, locs, cells, slots⟩ (Value.ref b :: argsL).toArray) :
    (∃ (v : Option Value) (vm₁ : Vm) (B : Pt), s.WarmedH vm₁ ∧ Stand p l e R s m args below meth c B.U B.locs B.cells B.slots ∧ Post ⟨T.setVm vm₁, locs, cells, slots⟩ (Value.ref b :: argsL).toArray v B ∧
      ∀ target, Steps p.tables e below (B.U.setTop { g with pc := g.pc + 3, stack := v.toList ++ rest }) target → Steps p.tables e below (T.setTop g) target) ∨
    (∃ (q : Addr) (vm₁ : Vm) (B : Pt), s.WarmedH vm₁ ∧ Stand p l e R s m args below meth c B.U B.locs B.cells B.slots ∧ PostX ⟨T.setVm vm₁, locs, cells, slots⟩ (Value.ref b :: argsL).toArray q B ∧
      Steps p.tables e below (T.setTop g) ((B.U.setTop { g with stack := rest }).pushFrame (.throwing q))) := by
  obtain ⟨mk, methM, hnamed, hmethM, hstM, habM⟩ := Cond.instanceMethod_spec hinst
  obtain ⟨methM', cM, hmethM', -, -, -, -, -, -, hsigM⟩ := Cond.code_spec hnamed hcode
  cases hmethM.symm.trans hmethM'
  obtain ⟨c2, r2, m2, q1, q2, q3, q4, kP, hkP, hkPi⟩ := Cond.selects_spec hsel
  cases hcls.symm.trans q1
  cases (State.methodFound?_of_named hnamed hy).symm.trans q2
  cases hnamed.symm.trans q3
  have hselP : selectMethod e.platform s.vm cellB.cls mk = .method mk := by rw [Launch.admits_selectMethod X.admits]; exact q4
  obtain ⟨vm₁, X₁, hstep₁⟩ := X.invokevirtual hexec hown hlink hnamed hmethM hstM hkP hkPi hy (a := b) (cell := cellB) hcell
    (fun z h => by rw [h] at hobj; cases hobj) hselP hmethM habM hkP hkPi (g := g) hg (argsL := argsL) (rest := rest) (hlen _ hsigM) hstack hdg
  rcases hK m meth c ⟨T.setVm vm₁, locs, cells, slots⟩ { g with stack := rest } (.invokevirtual index) mk (Value.ref b :: argsL).toArray X₁ hg hsize hdg hW (X₁.named hnamed) (hpre vm₁ X₁.warmed) with ⟨v, B, X', hpost, hsteps⟩ | ⟨q, B, X', hpost, hsteps⟩
  · exact Or.inl ⟨v, vm₁, B, X₁.warmed, X', hpost, fun target h => hstep₁ _ fun acts => by rw [doInvoke_state]; exact hsteps.trans h⟩
  · exact Or.inr ⟨q, vm₁, B, X₁.warmed, X', hpost, hstep₁ _ fun acts => by rw [doInvoke_state]; exact hsteps⟩
theorem vx_callS (X : Stand p l e R s m args below meth c T locs cells slots) (hexec : p.tables.exec = Jvm.exec) {own : String} {index : Nat} {y : MethodName} {bytes : ByteArray} {maxL : Nat} {ret : Option FieldType}
    (hown : s.vm.findClass own = some m.cls) (hlink : (Cond.methodLink own index y).before args s = true) (hstat : (Cond.static y).before args s = true) (hinit : (Cond.initialized y.cls).before args s = true)
    (hcode : (Cond.code y bytes maxL ret).before args s = true) (hy : y.cls ≠ "java/lang/invoke/MethodHandle" ∧ y.cls ≠ "java/lang/invoke/VarHandle")
    {W9 : Nat} {Pre : Pt → Array Value → Prop} {Post : Pt → Array Value → Option Value → Pt → Prop} {PostX : Pt → Array Value → Addr → Pt → Prop} (hK : vx_Back l R p e below s args y 3 W9 Pre Post PostX)
    {g : JFrame} (hg : g.method = m) (hsize : g.locals.size = c.maxLocals) {argsL rest : List Value} (hlen : ∀ sig, parseMethodDescriptor y.desc = some sig → argsL.length = sig.parameters.length)
    (hstack : g.stack = argsL.reverse ++ rest) (hW : 2 * g.monitorRoom + (rest.map fun v => v.category).sum ≤ W9) (hdg : decode c.code g.pc = .ok (.invokestatic index, 3))
    (hpre : ∀ vm₁, s.WarmedH vm₁ → Pre ⟨T.setVm vm₁, locs, cells, slots⟩ argsL.toArray) :
    (∃ (v : Option Value) (vm₁ : Vm) (B : Pt), s.WarmedH vm₁ ∧ Stand p l e R s m args below meth c B.U B.locs B.cells B.slots ∧ Post ⟨T.setVm vm₁, locs, cells, slots⟩ argsL.toArray v B ∧
      ∀ target, Steps p.tables e below (B.U.setTop { g with pc := g.pc + 3, stack := v.toList ++ rest }) target → Steps p.tables e below (T.setTop g) target) ∨
    (∃ (q : Addr) (vm₁ : Vm) (B : Pt), s.WarmedH vm₁ ∧ Stand p l e R s m args below meth c B.U B.locs B.cells B.slots ∧ PostX ⟨T.setVm vm₁, locs, cells, slots⟩ argsL.toArray q B ∧
      Steps p.tables e below (T.setTop g) ((B.U.setTop { g with stack := rest }).pushFrame (.throwing q))) := by
  obtain ⟨mk, hnamed⟩ := Cond.code_named hcode
  obtain ⟨methM, cM, hmethM, -, -, -, -, -, -, hsigM⟩ := Cond.code_spec hnamed hcode
  have hstatic : methM.isStatic = true := Cond.static_spec hnamed hmethM hstat
  obtain ⟨kP, hkP, -⟩ := className_of_methodNamed hnamed
  have hinitP : kP.init = .initialized := Cond.initialized_spec (findClass_of_methodNamed hnamed) hkP hinit
  obtain ⟨vm₁, X₁, hstep₁⟩ := X.invokestatic hexec hown hlink hnamed hmethM hstatic hkP hinitP hy (g := g) hg (argsL := argsL) (rest := rest) (hlen _ hsigM) hstack hdg
  rcases hK m meth c ⟨T.setVm vm₁, locs, cells, slots⟩ { g with stack := rest } (.invokestatic index) mk argsL.toArray X₁ hg hsize hdg hW (X₁.named hnamed) (hpre vm₁ X₁.warmed) with ⟨v, B, X', hpost, hsteps⟩ | ⟨q, B, X', hpost, hsteps⟩
  · exact Or.inl ⟨v, vm₁, B, X₁.warmed, X', hpost, fun target h => hstep₁ _ fun acts => by rw [doInvoke_state]; exact hsteps.trans h⟩
  · exact Or.inr ⟨q, vm₁, B, X₁.warmed, X', hpost, hstep₁ _ fun acts => by rw [doInvoke_state]; exact hsteps⟩
end Calls
theorem vx_cls {s : State} {T : State} {vm₁ : Vm} {E : String} {k : ClassId} (hW : s.WarmedH vm₁) (h : (T.setVm vm₁).vm.findClass E = some k) : s.vm.findClass E = some k := by
  have h1 : vm₁.findClass E = some k := h
  rw [hW.alike.findClass] at h1
  exact h1
/-- the method's frame g, with q thrown over it -/
def vx_W (p : Program) (l : Launch) (e : Env) (R : Room) (s : State) (m : MethodId) (args : Array Value) (below : List Frame) (meth : Method) (c : Code) (H : Heap) (locs : List Loc) (cells slots : Nat) (Q : State → Prop) (g : JFrame) (q : Addr) : Prop :=
  ∀ T : State, T.heap = H → Stand p l e R s m args below meth c T locs cells slots → ∃ t, Steps p.tables e below ((T.setTop g).pushFrame (.throwing q)) t ∧ Q t
def vx_Run (p : Program) (l : Launch) (e : Env) (R : Room) (s : State) (m : MethodId) (args : Array Value) (below : List Frame) (meth : Method) (c : Code) (H : Heap) (locs : List Loc) (cells slots mc ms : Nat) (g : JFrame) (rest : List Value) (Qa : State → Outcome → State → Prop) (XC : String → State → State → Prop) (free : Addr → Prop) : Prop :=
  ∀ T : State, T.heap = H → Stand p l e R s m args below meth c T locs cells slots →
    (∃ (v : Option Value) (st₀ t T' : State) (L : List Loc), st₀.heap = H ∧ Stand p l e R s m args below meth c T' (locs ++ L) (cells + mc) (slots + ms) ∧ (∀ q ∈ L, free q.base) ∧ T'.heap = t.heap ∧ T'.vm = t.vm ∧ Qa st₀ (.returned v) t ∧
      Goes p e below T g T' { g with pc := g.pc + 3, stack := v.toList ++ rest }) ∨
    (∃ (q : Addr) (st₀ t T' : State) (L : List Loc) (E : String) (ce : Cell), st₀.heap = H ∧ Stand p l e R s m args below meth c T' (locs ++ L) (cells + mc) (slots + ms) ∧ (∀ z ∈ L, free z.base) ∧ T'.heap = t.heap ∧ T'.vm = t.vm ∧ XC E st₀ t ∧ t.heap[q]? = some ce ∧ ce.vm = .none ∧ s.vm.findClass E = some ce.cls ∧
      Steps p.tables e below (T.setTop g) ((T'.setTop { g with stack := rest }).pushFrame (.throwing q)))
def vx_X {S : Type} (px : S → Prop) (B : String → S → State → Prop) (A : Nat → Prop) : String → State → State → Prop := fun E st t => ∃ u : S, px u ∧ B E u t ∧ va_F A st t
section Runs
variable {p : Program} {l : Launch} {e : Env} {R : Room} {s : State} {m : MethodId} {args : Array Value} {below : List Frame} {meth : Method} {c : Code} {H : Heap} {locs : List Loc} {cells slots : Nat}
variable {y : MethodName} {bytes cc : ByteArray} {maxL nL mc ms n index : Nat} {ret : Option FieldType} {ws : List Cond} {rm : Room} {Pc : Array Value → State → Prop} {Qc : Array Value → State → Outcome → State → Prop} {XC : String → State → State → Prop} {free : Addr → Prop} {Ts : List Cond} {own C : String} {b : Addr} {As rest : List Value} {g : JFrame}
theorem vx_callBack (cb : CallB R s args own index y bytes maxL ret ws rm mc ms n) (hM : vx_Met l y ws rm Pc Qc XC mc ms free) (hbl : FrameBlind Pc) : vx_Back l R p e below s args y 3 8 (PreOf R mc ms Pc) (PostOf Qc mc ms free) (vx_Post XC mc ms free) := by
  obtain ⟨hrc, hrs, hfr, hlo, hws, hcw, -, hini, -⟩ := cb
  exact vx_back (bytes := bytes) (maxL := maxL) (ret := ret) hM hbl hrc hrs hfr hlo hws hcw (fun a' U hW => word_at hW (Or.inl (by first | rfl | simp [Cond.onTables, Cond.keeps, Cond.steady])) hini)
theorem vx_runV (S : CallFix p m c cc nL s args Ts own) (hM : vx_Met l y ws rm Pc Qc XC mc ms free) (cw : CallW R s args own C index y bytes maxL ret ws rm mc ms n) (hp : PreV s H C b Pc As)
    (hg : g.method = m) (hn : As.length = n) (hsize : g.locals.size = nL) (hstack : g.stack = As.reverse ++ .ref b :: rest) (hW : 2 * g.monitorRoom + (rest.map fun v => v.category).sum ≤ 8) (hdg : decode cc g.pc = .ok (.invokevirtual index, 3)) (hf : cells + mc ≤ R.cells ∧ slots + ms ≤ R.slots) :
    vx_Run p l e R s m args below meth c H locs cells slots mc ms g rest (Qc (Value.ref b :: As).toArray) XC free := by
  have hK : vx_Back l R p e below s args y 3 8 (PreOf R mc ms Pc) (PostOf Qc mc ms free) (vx_Post XC mc ms free) := vx_callBack cw.1 hM hp.1
  obtain ⟨⟨-, -, -, -, -, -, hcode, -, hy, hlen, hl⟩, hin, hse⟩ := cw
  obtain ⟨hx, hb, hml, ho, -⟩ := S
  obtain ⟨-, ⟨cellB, hcB, hoB, hclB⟩, hPc⟩ := hp
  intro T hT X
  rcases vx_callV X hx (C := C) (bytes := bytes) (maxL := maxL) (ret := ret) ho hl hin hse hcode hy hK (by rw [hT]; exact hcB) hoB hclB hg (hsize.trans hml.symm) (argsL := As) (rest := rest) (fun sig h => hn.trans (hlen sig h)) hstack hW (by rw [hb]; exact hdg)
    (fun vm₁ hW₁ => ⟨hf.1, hf.2, hPc (T.setVm vm₁) hT hW₁⟩) with ⟨v, vm₁, ⟨U', l2, c2, s2⟩, hW₁, X', ⟨g', mk, t, L, e1, e2, hq, h1, hL, h2, h3⟩, st⟩ | ⟨q, vm₁, ⟨U', l2, c2, s2⟩, hW₁, X', ⟨g', mk, t, L, E, ce, e1, e2, hq, hce, hcv, hcl, h1, hL, h2, h3⟩, st⟩
  · dsimp only [Pt.U, Pt.locs, Pt.cells, Pt.slots] at X' e1 e2 h1 h2 h3 st
    subst h1; subst h2; subst h3
    exact Or.inl ⟨v, (T.setVm vm₁).calling g' mk (Value.ref b :: As).toArray, t, U', L, hT, X', hL, e1, e2, hq, st⟩
  · dsimp only [Pt.U, Pt.locs, Pt.cells, Pt.slots] at X' e1 e2 h1 h2 h3 st hcl
    subst h1; subst h2; subst h3
    exact Or.inr ⟨q, (T.setVm vm₁).calling g' mk (Value.ref b :: As).toArray, t, U', L, E, ce, hT, X', hL, e1, e2, hq, hce, hcv, vx_cls hW₁ hcl, st⟩
theorem vx_runS (S : CallFix p m c cc nL s args Ts own) (hM : vx_Met l y ws rm Pc Qc XC mc ms free) (cw : CallB R s args own index y bytes maxL ret ws rm mc ms n ∧ (Cond.static y).before args s = true) (hp : PreS s H Pc As)
    (hg : g.method = m) (hn : As.length = n) (hsize : g.locals.size = nL) (hstack : g.stack = As.reverse ++ rest) (hW : 2 * g.monitorRoom + (rest.map fun v => v.category).sum ≤ 8) (hdg : decode cc g.pc = .ok (.invokestatic index, 3)) (hf : cells + mc ≤ R.cells ∧ slots + ms ≤ R.slots) :
    vx_Run p l e R s m args below meth c H locs cells slots mc ms g rest (Qc As.toArray) XC free := by
  have hK : vx_Back l R p e below s args y 3 8 (PreOf R mc ms Pc) (PostOf Qc mc ms free) (vx_Post XC mc ms free) := vx_callBack cw.1 hM hp.1
  obtain ⟨⟨-, -, -, -, -, -, hcode, hini, hy, hlen, hl⟩, hstt⟩ := cw
  obtain ⟨hx, hb, hml, ho, -⟩ := S
  intro T hT X
  rcases vx_callS X hx (bytes := bytes) (maxL := maxL) (ret := ret) ho hl hstt hini hcode hy hK hg (hsize.trans hml.symm) (argsL := As) (rest := rest) (fun sig h => hn.trans (hlen sig h)) hstack hW (by rw [hb]; exact hdg)
    (fun vm₁ hW₁ => ⟨hf.1, hf.2, hp.2 (T.setVm vm₁) hT hW₁⟩) with ⟨v, vm₁, ⟨U', l2, c2, s2⟩, hW₁, X', ⟨g', mk, t, L, e1, e2, hq, h1, hL, h2, h3⟩, st⟩ | ⟨q, vm₁, ⟨U', l2, c2, s2⟩, hW₁, X', ⟨g', mk, t, L, E, ce, e1, e2, hq, hce, hcv, hcl, h1, hL, h2, h3⟩, st⟩
  · dsimp only [Pt.U, Pt.locs, Pt.cells, Pt.slots] at X' e1 e2 h1 h2 h3 st
    subst h1; subst h2; subst h3
    exact Or.inl ⟨v, (T.setVm vm₁).calling g' mk As.toArray, t, U', L, hT, X', hL, e1, e2, hq, st⟩
  · dsimp only [Pt.U, Pt.locs, Pt.cells, Pt.slots] at X' e1 e2 h1 h2 h3 st hcl
    subst h1; subst h2; subst h3
    exact Or.inr ⟨q, (T.setVm vm₁).calling g' mk As.toArray, t, U', L, E, ce, hT, X', hL, e1, e2, hq, hce, hcv, vx_cls hW₁ hcl, st⟩
end Runs
section Rows
variable {p : Program} {l : Launch} {e : Env} {R : Room} {s : State} {m : MethodId} {args : Array Value} {below : List Frame} {meth : Method} {c : Code} {H : Heap} {locs : List Loc} {cells slots : Nat} {Q : State → Prop}
variable {mc ms : Nat} {free : Addr → Prop} {A0 A1 : Nat → Prop} {H0 : Heap} {a : Array Value} {pc : Nat} {ls : Array Slot} {st0 rest : List Value}
theorem vx_keep {st₀ t T' : State} {L : List Loc} (h0 : st₀.heap = H) (e1 : T'.heap = t.heap) (hS : va_S A0 H0 H locs) (hA : ∀ q, q < H.size → A1 q → A0 q) (hf : ∀ q, free q → A0 q) (hL : ∀ q ∈ L, free q.base) (hF : va_F A1 st₀ t) :
    H.size ≤ T'.heap.size ∧ (∀ q : Nat, q < H.size → ¬ A1 q → T'.heap[q]? = H[q]?) ∧ va_S A0 H0 T'.heap (locs ++ L) := by
  obtain ⟨hz, hk⟩ := hF
  rw [h0] at hz hk
  exact ⟨by rw [e1]; exact hz, fun q h1 h2 => by rw [e1]; exact hk q h1 h2,
    ⟨Nat.le_trans hS.1 (by rw [e1]; exact hz), fun q h1 h2 => by rw [e1, hk q (Nat.lt_of_lt_of_le h1 hS.1) (fun z => h2 (hA q (Nat.lt_of_lt_of_le h1 hS.1) z))]; exact hS.2.1 q h1 h2, fun q hq => by
      rcases List.mem_append.mp hq with h | h
      · exact hS.2.2 q h
      · exact hf _ (hL q h)⟩⟩
theorem vx_calli {S SX : Type} {post : Int32 → S → Prop} {px : SX → Prop} {B : S → State → Prop} {BX : String → SX → State → Prop} {AX : Nat → Prop} (hr : vx_Run p l e R s m args below meth c H locs cells slots mc ms (F0 m pc ls st0) rest (va_Qi post B A1 a) (vx_X px BX AX) free) (hS : va_S A0 H0 H locs) (hA : ∀ q, q < H.size → A1 q → A0 q) (hf : ∀ q, free q → A0 q) (hAX : ∀ q, q < H.size → AX q → A0 q)
    (kx : ∀ (E : String) (ce : Cell) (q9 : Addr) (u : SX) (t : State) (H1 : Heap) (locs1 : List Loc), t.heap = H1 → s.vm.Alike t.vm → px u → BX E u t → H.size ≤ H1.size → (∀ q : Nat, q < H.size → ¬ AX q → H1[q]? = H[q]?) → va_S A0 H0 H1 locs1 → H1[q9]? = some ce → ce.vm = .none → s.vm.findClass E = some ce.cls → vx_W p l e R s m args below meth c H1 locs1 (cells + mc) (slots + ms) Q (F0 m pc ls rest) q9)
    (kk : ∀ (r : Int32) (u : S) (t : State) (H1 : Heap) (locs1 : List Loc), t.heap = H1 → s.vm.Alike t.vm → post r u → B u t → H.size ≤ H1.size → (∀ q : Nat, q < H.size → ¬ A1 q → H1[q]? = H[q]?) → va_S A0 H0 H1 locs1 → W p l e R s m args below meth c H1 locs1 (cells + mc) (slots + ms) Q (F0 m (pc + 3) ls (.int r :: rest))) : W p l e R s m args below meth c H locs cells slots Q (F0 m pc ls st0) := by
  intro T hT X
  rcases hr T hT X with ⟨v, st₀, t, T', L, h0, X', hL, e1, e2, ⟨⟨r, u, hv, hp, hb⟩, hF⟩, st⟩ | ⟨q, st₀, t, T', L, E, ce, h0, X', hL, e1, e2, ⟨u, hp, hb, hF⟩, hce, hcv, hcl, st⟩
  · cases hv
    obtain ⟨k1, k2, k3⟩ := vx_keep h0 e1 hS hA hf hL hF
    obtain ⟨t2, a1, b1⟩ := kk r u t T'.heap (locs ++ L) e1.symm (by rw [← e2]; exact X'.warmed.alike) hp hb k1 k2 k3 T' rfl X'
    exact ⟨t2, st t2 a1, b1⟩
  · obtain ⟨k1, k2, k3⟩ := vx_keep h0 e1 hS hAX hf hL hF
    obtain ⟨t2, a1, b1⟩ := kx E ce q u t T'.heap (locs ++ L) e1.symm (by rw [← e2]; exact X'.warmed.alike) hp hb k1 k2 k3 (by rw [e1]; exact hce) hcv hcl T' rfl X'
    exact ⟨t2, st.trans a1, b1⟩
theorem vx_calll {S SX : Type} {post : Int64 → S → Prop} {px : SX → Prop} {B : S → State → Prop} {BX : String → SX → State → Prop} {AX : Nat → Prop} (hr : vx_Run p l e R s m args below meth c H locs cells slots mc ms (F0 m pc ls st0) rest (va_Ql post B A1 a) (vx_X px BX AX) free) (hS : va_S A0 H0 H locs) (hA : ∀ q, q < H.size → A1 q → A0 q) (hf : ∀ q, free q → A0 q) (hAX : ∀ q, q < H.size → AX q → A0 q)
    (kx : ∀ (E : String) (ce : Cell) (q9 : Addr) (u : SX) (t : State) (H1 : Heap) (locs1 : List Loc), t.heap = H1 → s.vm.Alike t.vm → px u → BX E u t → H.size ≤ H1.size → (∀ q : Nat, q < H.size → ¬ AX q → H1[q]? = H[q]?) → va_S A0 H0 H1 locs1 → H1[q9]? = some ce → ce.vm = .none → s.vm.findClass E = some ce.cls → vx_W p l e R s m args below meth c H1 locs1 (cells + mc) (slots + ms) Q (F0 m pc ls rest) q9)
    (kk : ∀ (r : Int64) (u : S) (t : State) (H1 : Heap) (locs1 : List Loc), t.heap = H1 → s.vm.Alike t.vm → post r u → B u t → H.size ≤ H1.size → (∀ q : Nat, q < H.size → ¬ A1 q → H1[q]? = H[q]?) → va_S A0 H0 H1 locs1 → W p l e R s m args below meth c H1 locs1 (cells + mc) (slots + ms) Q (F0 m (pc + 3) ls (.long r :: rest))) : W p l e R s m args below meth c H locs cells slots Q (F0 m pc ls st0) := by
  intro T hT X
  rcases hr T hT X with ⟨v, st₀, t, T', L, h0, X', hL, e1, e2, ⟨⟨r, u, hv, hp, hb⟩, hF⟩, st⟩ | ⟨q, st₀, t, T', L, E, ce, h0, X', hL, e1, e2, ⟨u, hp, hb, hF⟩, hce, hcv, hcl, st⟩
  · cases hv
    obtain ⟨k1, k2, k3⟩ := vx_keep h0 e1 hS hA hf hL hF
    obtain ⟨t2, a1, b1⟩ := kk r u t T'.heap (locs ++ L) e1.symm (by rw [← e2]; exact X'.warmed.alike) hp hb k1 k2 k3 T' rfl X'
    exact ⟨t2, st t2 a1, b1⟩
  · obtain ⟨k1, k2, k3⟩ := vx_keep h0 e1 hS hAX hf hL hF
    obtain ⟨t2, a1, b1⟩ := kx E ce q u t T'.heap (locs ++ L) e1.symm (by rw [← e2]; exact X'.warmed.alike) hp hb k1 k2 k3 (by rw [e1]; exact hce) hcv hcl T' rfl X'
    exact ⟨t2, st.trans a1, b1⟩
theorem vx_callf {S SX : Type} {post : UInt32 → S → Prop} {px : SX → Prop} {B : S → State → Prop} {BX : String → SX → State → Prop} {AX : Nat → Prop} (hr : vx_Run p l e R s m args below meth c H locs cells slots mc ms (F0 m pc ls st0) rest (va_Qf post B A1 a) (vx_X px BX AX) free) (hS : va_S A0 H0 H locs) (hA : ∀ q, q < H.size → A1 q → A0 q) (hf : ∀ q, free q → A0 q) (hAX : ∀ q, q < H.size → AX q → A0 q)
    (kx : ∀ (E : String) (ce : Cell) (q9 : Addr) (u : SX) (t : State) (H1 : Heap) (locs1 : List Loc), t.heap = H1 → s.vm.Alike t.vm → px u → BX E u t → H.size ≤ H1.size → (∀ q : Nat, q < H.size → ¬ AX q → H1[q]? = H[q]?) → va_S A0 H0 H1 locs1 → H1[q9]? = some ce → ce.vm = .none → s.vm.findClass E = some ce.cls → vx_W p l e R s m args below meth c H1 locs1 (cells + mc) (slots + ms) Q (F0 m pc ls rest) q9)
    (kk : ∀ (r : UInt32) (u : S) (t : State) (H1 : Heap) (locs1 : List Loc), t.heap = H1 → s.vm.Alike t.vm → post r u → B u t → H.size ≤ H1.size → (∀ q : Nat, q < H.size → ¬ A1 q → H1[q]? = H[q]?) → va_S A0 H0 H1 locs1 → W p l e R s m args below meth c H1 locs1 (cells + mc) (slots + ms) Q (F0 m (pc + 3) ls (.float r :: rest))) : W p l e R s m args below meth c H locs cells slots Q (F0 m pc ls st0) := by
  intro T hT X
  rcases hr T hT X with ⟨v, st₀, t, T', L, h0, X', hL, e1, e2, ⟨⟨r, u, hv, hp, hb⟩, hF⟩, st⟩ | ⟨q, st₀, t, T', L, E, ce, h0, X', hL, e1, e2, ⟨u, hp, hb, hF⟩, hce, hcv, hcl, st⟩
  · cases hv
    obtain ⟨k1, k2, k3⟩ := vx_keep h0 e1 hS hA hf hL hF
    obtain ⟨t2, a1, b1⟩ := kk r u t T'.heap (locs ++ L) e1.symm (by rw [← e2]; exact X'.warmed.alike) hp hb k1 k2 k3 T' rfl X'
    exact ⟨t2, st t2 a1, b1⟩
  · obtain ⟨k1, k2, k3⟩ := vx_keep h0 e1 hS hAX hf hL hF
    obtain ⟨t2, a1, b1⟩ := kx E ce q u t T'.heap (locs ++ L) e1.symm (by rw [← e2]; exact X'.warmed.alike) hp hb k1 k2 k3 (by rw [e1]; exact hce) hcv hcl T' rfl X'
    exact ⟨t2, st.trans a1, b1⟩
theorem vx_calld {S SX : Type} {post : UInt64 → S → Prop} {px : SX → Prop} {B : S → State → Prop} {BX : String → SX → State → Prop} {AX : Nat → Prop} (hr : vx_Run p l e R s m args below meth c H locs cells slots mc ms (F0 m pc ls st0) rest (va_Qd post B A1 a) (vx_X px BX AX) free) (hS : va_S A0 H0 H locs) (hA : ∀ q, q < H.size → A1 q → A0 q) (hf : ∀ q, free q → A0 q) (hAX : ∀ q, q < H.size → AX q → A0 q)
    (kx : ∀ (E : String) (ce : Cell) (q9 : Addr) (u : SX) (t : State) (H1 : Heap) (locs1 : List Loc), t.heap = H1 → s.vm.Alike t.vm → px u → BX E u t → H.size ≤ H1.size → (∀ q : Nat, q < H.size → ¬ AX q → H1[q]? = H[q]?) → va_S A0 H0 H1 locs1 → H1[q9]? = some ce → ce.vm = .none → s.vm.findClass E = some ce.cls → vx_W p l e R s m args below meth c H1 locs1 (cells + mc) (slots + ms) Q (F0 m pc ls rest) q9)
    (kk : ∀ (r : UInt64) (u : S) (t : State) (H1 : Heap) (locs1 : List Loc), t.heap = H1 → s.vm.Alike t.vm → post r u → B u t → H.size ≤ H1.size → (∀ q : Nat, q < H.size → ¬ A1 q → H1[q]? = H[q]?) → va_S A0 H0 H1 locs1 → W p l e R s m args below meth c H1 locs1 (cells + mc) (slots + ms) Q (F0 m (pc + 3) ls (.double r :: rest))) : W p l e R s m args below meth c H locs cells slots Q (F0 m pc ls st0) := by
  intro T hT X
  rcases hr T hT X with ⟨v, st₀, t, T', L, h0, X', hL, e1, e2, ⟨⟨r, u, hv, hp, hb⟩, hF⟩, st⟩ | ⟨q, st₀, t, T', L, E, ce, h0, X', hL, e1, e2, ⟨u, hp, hb, hF⟩, hce, hcv, hcl, st⟩
  · cases hv
    obtain ⟨k1, k2, k3⟩ := vx_keep h0 e1 hS hA hf hL hF
    obtain ⟨t2, a1, b1⟩ := kk r u t T'.heap (locs ++ L) e1.symm (by rw [← e2]; exact X'.warmed.alike) hp hb k1 k2 k3 T' rfl X'
    exact ⟨t2, st t2 a1, b1⟩
  · obtain ⟨k1, k2, k3⟩ := vx_keep h0 e1 hS hAX hf hL hF
    obtain ⟨t2, a1, b1⟩ := kx E ce q u t T'.heap (locs ++ L) e1.symm (by rw [← e2]; exact X'.warmed.alike) hp hb k1 k2 k3 (by rw [e1]; exact hce) hcv hcl T' rfl X'
    exact ⟨t2, st.trans a1, b1⟩
theorem vx_callv {S SX : Type} {post : S → Prop} {px : SX → Prop} {B : S → State → Prop} {BX : String → SX → State → Prop} {AX : Nat → Prop} (hr : vx_Run p l e R s m args below meth c H locs cells slots mc ms (F0 m pc ls st0) rest (va_Qv post B A1 a) (vx_X px BX AX) free) (hS : va_S A0 H0 H locs) (hA : ∀ q, q < H.size → A1 q → A0 q) (hf : ∀ q, free q → A0 q) (hAX : ∀ q, q < H.size → AX q → A0 q)
    (kx : ∀ (E : String) (ce : Cell) (q9 : Addr) (u : SX) (t : State) (H1 : Heap) (locs1 : List Loc), t.heap = H1 → s.vm.Alike t.vm → px u → BX E u t → H.size ≤ H1.size → (∀ q : Nat, q < H.size → ¬ AX q → H1[q]? = H[q]?) → va_S A0 H0 H1 locs1 → H1[q9]? = some ce → ce.vm = .none → s.vm.findClass E = some ce.cls → vx_W p l e R s m args below meth c H1 locs1 (cells + mc) (slots + ms) Q (F0 m pc ls rest) q9)
    (kk : ∀ (u : S) (t : State) (H1 : Heap) (locs1 : List Loc), t.heap = H1 → s.vm.Alike t.vm → post u → B u t → H.size ≤ H1.size → (∀ q : Nat, q < H.size → ¬ A1 q → H1[q]? = H[q]?) → va_S A0 H0 H1 locs1 → W p l e R s m args below meth c H1 locs1 (cells + mc) (slots + ms) Q (F0 m (pc + 3) ls (rest))) : W p l e R s m args below meth c H locs cells slots Q (F0 m pc ls st0) := by
  intro T hT X
  rcases hr T hT X with ⟨v, st₀, t, T', L, h0, X', hL, e1, e2, ⟨⟨u, hv, hp, hb⟩, hF⟩, st⟩ | ⟨q, st₀, t, T', L, E, ce, h0, X', hL, e1, e2, ⟨u, hp, hb, hF⟩, hce, hcv, hcl, st⟩
  · cases hv
    obtain ⟨k1, k2, k3⟩ := vx_keep h0 e1 hS hA hf hL hF
    obtain ⟨t2, a1, b1⟩ := kk u t T'.heap (locs ++ L) e1.symm (by rw [← e2]; exact X'.warmed.alike) hp hb k1 k2 k3 T' rfl X'
    exact ⟨t2, st t2 a1, b1⟩
  · obtain ⟨k1, k2, k3⟩ := vx_keep h0 e1 hS hAX hf hL hF
    obtain ⟨t2, a1, b1⟩ := kx E ce q u t T'.heap (locs ++ L) e1.symm (by rw [← e2]; exact X'.warmed.alike) hp hb k1 k2 k3 (by rw [e1]; exact hce) hcv hcl T' rfl X'
    exact ⟨t2, st.trans a1, b1⟩
/-- caught by the row x of this method's table; the rows ahead don't take it -/
theorem vx_catch {own name : String} {E : String} {ce : Cell} {q : Addr} (hown : s.vm.findClass own = some m.cls) (pre : List ExceptionTableEntry) (x : ExceptionTableEntry) (suf : List ExceptionTableEntry) (hsplit : c.exceptionTable.toList = pre ++ x :: suf)
    (hpass : ∀ z ∈ pre, covers z pc = false ∨ (z.catchType ≠ 0 ∧ ∃ nm : String, (Cond.classLink own z.catchType nm).before args s = true ∧ va_Nc E nm s)) (hx : covers x pc = true) (h0 : x.catchType ≠ 0)
    (hlink : (Cond.classLink own x.catchType name).before args s = true) (hcast : (Cond.castable E name).before args s = true) (hcell : H[q]? = some ce) (hv : ce.vm = .none) (hcl : s.vm.findClass E = some ce.cls)
    (kk : W p l e R s m args below meth c H locs cells slots Q (F0 m x.handlerPc ls [.ref q])) : vx_W p l e R s m args below meth c H locs cells slots Q (F0 m pc ls rest) q := by
  intro T hT X
  have hpl : e.platform.magicAccessors = ({} : Platform).magicAccessors := by rw [X.admits.platform]
  obtain ⟨c3, c4, hc3, hc4, hasg⟩ := Cond.castable_spec hcast
  cases Option.some.inj (hc3.symm.trans hcl)
  obtain ⟨c5, hc5, hcl5⟩ := Cond.classLink_spec hown hlink e.platform hpl
  cases Option.some.inj (hc4.symm.trans hc5)
  obtain ⟨vm', X', st⟩ := X.thenCaughtThrough q (g := F0 m pc ls rest) rfl (Steps.refl _) (by rw [hT]; exact hcell) (by rw [hv]; rfl) (by obtain ⟨k9, h9, -⟩ := Vm.findClass_spec hcl; exact ⟨k9, h9⟩) pre x suf hsplit
    (fun z hz => by
      rcases hpass z hz with h | ⟨hz0, nm, hl1, hn1⟩
      · exact Or.inl h
      · obtain ⟨c6, hc6, hcl6⟩ := Cond.classLink_spec hown hl1 e.platform hpl
        obtain ⟨a8, b8, h1, h2, h3⟩ := hn1
        cases Option.some.inj (h1.symm.trans hcl)
        cases Option.some.inj (h2.symm.trans hc6)
        exact Or.inr ⟨hz0, _, hcl6, h3⟩) hx (Or.inr ⟨h0, c4, hcl5, hasg⟩)
  obtain ⟨t, a1, b1⟩ := kk (T.setVm vm') hT X'
  exact ⟨t, st.trans a1, b1⟩
end Rows
section Ends
variable {p : Program} {l : Launch} {e : Env} {R : Room} {s : State} {m : MethodId} {args : Array Value} {below : List Frame} {meth : Method} {c : Code} {H : Heap} {locs : List Loc} {cells slots : Nat} {Q : State → Prop}
variable {mc ms : Nat} {free : Addr → Prop} {A0 A1 : Nat → Prop} {H0 : Heap} {a : Array Value} {ls : Array Slot} {st0 rest : List Value}
variable {Qc : Array Value → State → Outcome → State → Prop} {XC : String → State → State → Prop}
/-- what a body that may throw owes at its end -/
def vx_MQ (below : List Frame) (Qc : Array Value → State → Outcome → State → Prop) (XC : String → State → State → Prop) (a : Array Value) (s : State) (mc ms : Nat) (free : Addr → Prop) : State → Prop := fun t =>
  ∃ o, t.status = .running ∧ Ended t below o ∧ vx_Q Qc XC mc ms free a s o t
theorem vx_ret {g : JFrame} {mc ms : Nat} (k : W p l e R s m args below meth c H locs cells slots (MQ below Qc args s mc ms free) g) : W p l e R s m args below meth c H locs cells slots (vx_MQ below Qc XC args s mc ms free) g := by
  intro T hT X
  obtain ⟨t, a1, o, b1, b2, b3, b4⟩ := k T hT X
  exact ⟨t, a1, o, b1, b2, Or.inl ⟨b3, b4⟩⟩
/-- not caught here: it goes on to the caller -/
theorem vx_widen {g : JFrame} {q : Addr} {k n : Nat} (h1 : cells ≤ k) (h2 : slots ≤ n) (kk : vx_W p l e R s m args below meth c H locs k n Q g q) : vx_W p l e R s m args below meth c H locs cells slots Q g q := fun T hT X => kk T hT (stand_widen X h1 h2)
theorem vx_out {pc : Nat} {E : String} {ce : Cell} {q : Addr} {mc ms : Nat} (hout : ∀ x ∈ c.exceptionTable.toList, covers x pc = false) (hlocks : meth.locks = false) (hcell : H[q]? = some ce) (hv : ce.vm = .none) (hcl : s.vm.findClass E = some ce.cls)
    (hx : ∀ t : State, t.heap = H → s.vm.Alike t.vm → XC E s t) (hf : ∀ z ∈ locs, free z.base) (hc : cells ≤ mc) (hs : slots ≤ ms) :
    vx_W p l e R s m args below meth c H locs cells slots (vx_MQ below Qc XC args s mc ms free) (F0 m pc ls rest) q := by
  intro T hT X
  obtain ⟨st1, hrun, hend, hW, hsm⟩ := X.leaveThrown q (g := F0 m pc ls rest) rfl rfl rfl hout hlocks
  have hcell9 : (T.setFrames (.throwing q :: below)).heap[q]? = some ce := by
    show T.heap[q]? = some ce
    rw [hT]; exact hcell
  exact ⟨_, st1, .threw q, hrun, hend, Or.inr ⟨q, rfl, E, ce, locs, hx _ hT hW.alike, hcell9, hv, hcl, hW, hsm.mono hc hs, hf⟩⟩
theorem vx_frame {U : State} {k n : Nat} (h : s.sameButNew ({ U with vm := s.vm } : State) locs k n) : s.heap.size ≤ U.heap.size ∧ ∀ q : Nat, q < s.heap.size → (∀ z ∈ locs, z.base ≠ q) → U.heap[q]? = s.heap[q]? := by
  obtain ⟨-, h2, -, -, -, h6⟩ := h
  refine ⟨h2, fun q hq hz => ?_⟩
  obtain ⟨c9, e1, e2, e3, e4⟩ := h6 q _ (Array.getElem?_eq_getElem hq)
  have hs : c9.slots = (s.heap[q]).slots := Array.ext_getElem? fun i => e4 i fun hm => hz _ hm rfl
  have h9 : c9 = s.heap[q] := by
    rw [hs] at e2
    exact e2
  have e5 : U.heap[q]? = some c9 := e1
  rw [e5, h9, Array.getElem?_eq_getElem hq]
/-- the words of a throw but the four that speak of the heap -/
def vx_no (w : Cond) : Bool := decide (w ≠ .isRef (.static Bundle.tN "UNASSIGNED_STACK" Bundle.steD)) && decide (w ≠ .isRef (.static Bundle.tN "SUPPRESSED_SENTINEL" Bundle.listD)) && decide (w ≠ .laysStatic Bundle.tN "UNASSIGNED_STACK" Bundle.steD) && decide (w ≠ .laysStatic Bundle.tN "SUPPRESSED_SENTINEL" Bundle.listD)
def vx_at0 (own : String) (ic : Nat) (X : String) (names : List String) : List Cond := (Bundle.ownAtoms0 own ic X names).filter vx_no
def vx_atS (own : String) (ic : Nat) (X : String) (names : List String) : List Cond := (Bundle.ownAtoms own ic X names).filter vx_no
/-- a word that the tables alone decide, or a good one -/
def vx_ot (w : Cond) : Bool := w.onTables || goodWord w
theorem vx_ot_at {args a' : Array Value} {s U : State} {w : Cond} (hW : s.WarmedH U.vm) (hvm : s.vm = U.vm) (hg : vx_ot w = true) (h : w.before args s = true) : w.before a' U = true := by
  simp only [vx_ot, Bool.or_eq_true] at hg
  rcases hg with hg | hg
  · exact va_tabs hg hvm h
  · exact word_at hW (good_of_word hg) h
/-- a list's words: the good ones out of the method's own list, the others by premises of their own -/
theorem vx_hat {args : Array Value} {s : State} {L B : List Cond} (h1 : ∀ w ∈ L.filter goodWord, w.before args s = true) (h2 : ∀ w ∈ L.filter (fun w => !goodWord w), w ∈ B) (h3 : ∀ w ∈ B, w.before args s = true) : ∀ w ∈ L, w.before args s = true := by
  intro w hw
  by_cases g : goodWord w = true
  · exact h1 w (List.mem_filter.mpr ⟨hw, g⟩)
  · refine h3 w (h2 w (List.mem_filter.mpr ⟨hw, ?_⟩))
    show (!goodWord w) = true
    cases hgw : goodWord w
    · rfl
    · exact absurd hgw g
theorem vx_c {args : Array Value} {s : State} {w : Cond} {B : List Cond} (h : w.before args s = true) (t : ∀ w ∈ B, w.before args s = true) : ∀ w' ∈ w :: B, w'.before args s = true := fun w' h' => (List.mem_cons.mp h').elim (fun e => by rw [e]; exact h) (t w')
theorem vx_n {args : Array Value} {s : State} : ∀ w ∈ ([] : List Cond), w.before args s = true := fun _ h => nomatch h
theorem vx_own {args : Array Value} {s : State} {L : List Cond} (h1 : ∀ w ∈ L.filter vx_no, w.before args s = true)
    (hU : (Cond.isRef (.static Bundle.tN "UNASSIGNED_STACK" Bundle.steD)).before args s = true) (hN : (Cond.isRef (.static Bundle.tN "SUPPRESSED_SENTINEL" Bundle.listD)).before args s = true)
    (lU : (Cond.laysStatic Bundle.tN "UNASSIGNED_STACK" Bundle.steD).before args s = true) (lN : (Cond.laysStatic Bundle.tN "SUPPRESSED_SENTINEL" Bundle.listD).before args s = true) : ∀ w ∈ L, w.before args s = true := by
  intro w hw
  by_cases e1 : w = .isRef (.static Bundle.tN "UNASSIGNED_STACK" Bundle.steD)
  · rw [e1]; exact hU
  · by_cases e2 : w = .isRef (.static Bundle.tN "SUPPRESSED_SENTINEL" Bundle.listD)
    · rw [e2]; exact hN
    · by_cases e3 : w = .laysStatic Bundle.tN "UNASSIGNED_STACK" Bundle.steD
      · rw [e3]; exact lU
      · by_cases e4 : w = .laysStatic Bundle.tN "SUPPRESSED_SENTINEL" Bundle.listD
        · rw [e4]; exact lN
        · exact h1 w (List.mem_filter.mpr ⟨hw, by unfold vx_no; rw [decide_eq_true e1, decide_eq_true e2, decide_eq_true e3, decide_eq_true e4]; rfl⟩)
/-- where a static field lies, its class's statics cell in H -/
def vx_L (C n d : String) (A : Nat → Prop) (U : State) (H : Heap) : Prop := ∃ (c : ClassId) (k : Class) (i : Nat) (f : Field) (a : Nat) (cell : Cell), U.vm.findClass C = some c ∧ U.fieldFound? C n d = some (c, k, i, f) ∧ f.isStatic = true ∧ k.statics = some a ∧ H[a]? = some cell ∧ cell.vm.isStatics = true ∧ cell.cls = c ∧ f.slot < cell.slots.size ∧ k.staticTypes[f.slot]? = some f.type ∧ ¬ A a
theorem vx_L.moved {C n d : String} {A : Nat → Prop} {u U : State} {H : Heap} (hvm : u.vm.Alike U.vm) (h : vx_L C n d A u H) : vx_L C n d A U H := by
  obtain ⟨c, k, i, f, a, cell, h1, h2, h3, h4, h5, h6, h7, h8, h9, h10⟩ := h
  obtain ⟨k', hi', he⟩ := State.fieldFound?_setVm hvm h2
  exact ⟨c, k', i, f, a, cell, by rw [hvm.findClass]; exact h1, hi', h3, by rw [he]; exact h4, h5, h6, h7, h8, by rw [he]; exact h9, h10⟩
theorem vx_L.kept {C n d : String} {A : Nat → Prop} {U : State} {H H1 : Heap} (h : vx_L C n d A U H) (hq : ∀ a : Nat, a < H.size → ¬ A a → H1[a]? = H[a]?) : vx_L C n d A U H1 := by
  obtain ⟨c, k, i, f, a, cell, h1, h2, h3, h4, h5, h6, h7, h8, h9, h10⟩ := h
  exact ⟨c, k, i, f, a, cell, h1, h2, h3, h4, by rw [hq a (Array.getElem?_eq_some_iff.mp h5).1 h10]; exact h5, h6, h7, h8, h9, h10⟩
theorem vx_L.narrow {C n d : String} {A B : Nat → Prop} {U : State} {H : Heap} (h : vx_L C n d A U H) (hAB : ∀ q, B q → A q) : vx_L C n d B U H := by
  obtain ⟨c, k, i, f, a, cell, h1, h2, h3, h4, h5, h6, h7, h8, h9, h10⟩ := h
  exact ⟨c, k, i, f, a, cell, h1, h2, h3, h4, h5, h6, h7, h8, h9, fun z => h10 (hAB _ z)⟩
theorem vx_L.word {C n d : String} {A : Nat → Prop} {s : State} {args : Array Value} (h : vx_L C n d A s s.heap) : (Cond.laysStatic C n d).before args s = true := by
  obtain ⟨c, k, i, f, a, cell, h1, h2, h3, h4, h5, h6, h7, h8, h9, -⟩ := h
  show (Cond.laysStatic C n d).holds args s none s [] = true
  exact Cond.laysStatic_of h1 h2 h3 h4 h5 h6 h7 h8 h9
/-- .. and what it holds: null or some reference -/
def vx_Zq (C n d : String) (A : Nat → Prop) (U : State) (H : Heap) : Prop := va_Zq C n d A U H ∧ vx_L C n d A U H
theorem vx_Zq.moved {C n d : String} {A : Nat → Prop} {u U : State} {H : Heap} (hvm : u.vm.Alike U.vm) (h : vx_Zq C n d A u H) : vx_Zq C n d A U H := ⟨va_Zq.moved hvm h.1, vx_L.moved hvm h.2⟩
theorem vx_Zq.kept {C n d : String} {A : Nat → Prop} {U : State} {H H1 : Heap} (h : vx_Zq C n d A U H) (hq : ∀ a : Nat, a < H.size → ¬ A a → H1[a]? = H[a]?) : vx_Zq C n d A U H1 := ⟨va_Zq.kept h.1 hq, vx_L.kept h.2 hq⟩
theorem vx_Zq.narrow {C n d : String} {A B : Nat → Prop} {U : State} {H : Heap} (h : vx_Zq C n d A U H) (hAB : ∀ q, B q → A q) : vx_Zq C n d B U H := ⟨va_Zq.narrow h.1 hAB, vx_L.narrow h.2 hAB⟩
theorem vx_Zqof {args : Array Value} {s : State} {C n d : String} {A : Nat → Prop} (hl : (Cond.laysStatic C n d).before args s = true) (hini : (Cond.initialized C).before args s = true) (h : (Cond.isRef (.static C n d)).before args s = true) (hA : ∀ a : Nat, a < s.heap.size → ¬ A a) : vx_Zq C n d A s s.heap := by
  refine ⟨va_Zqof hl hini h hA, ?_⟩
  obtain ⟨c, k, i, f, a, cell, h1, h2, h3, h4, h5, h6, h7, h8, h9⟩ := Cond.laysStatic_spec hl
  exact ⟨c, k, i, f, a, cell, h1, h2, h3, h4, h5, h6, h7, h8, h9, hA a (Array.getElem?_eq_some_iff.mp h5).1⟩
theorem vx_isRef {C n d : String} {v : Value} {A : Nat → Prop} {s : State} {args : Array Value} (h : va_Z C n d v A s s.heap) (hv : v.isRef = true) : (Cond.isRef (.static C n d)).before args s = true := by
  obtain ⟨cf, kf, fi, f, a, cell, h1, h2, h3, h4, h5, h6, h7, -⟩ := h
  have he : (Term.static C n d).eval args s none [] s = some v := by
    simp [Term.eval, State.fieldNamed?, h1, h2, h4, h5, h6, h7]
  simp only [Cond.before, Cond.holds, Cond.value, he]
  cases v <;> simp_all [Value.isRef]
theorem vx_isRefq {C n d : String} {A : Nat → Prop} {s : State} {args : Array Value} (h : va_Zq C n d A s s.heap) : (Cond.isRef (.static C n d)).before args s = true := by
  rcases h with h | ⟨t, h⟩
  · exact vx_isRef h rfl
  · exact vx_isRef h rfl
/-- the same frame, seen from here: as if the method were called anew in this heap -/
theorem vx_rebase {T : State} (X : Stand p l e R s m args below meth c T locs cells slots) {R' : Room} (hf : R'.frames ≤ R.frames) (hl : R'.locals ≤ R.locals) (hc : cells + R'.cells ≤ R.cells) (hs : slots + R'.slots ≤ R.slots) :
    Stand p l e R' ((T.setVm s.vm).setFrames (.invoking m args :: below)) m args below meth c T [] 0 0 := by
  have htop : (T.setVm s.vm).topJava?.isSome := X.here.top
  have hF : ((T.setVm s.vm).setFrames (.invoking m args :: below)).frames = .invoking m args :: below := State.frames_setFrames _ (State.cur_lt_of_top htop)
  obtain ⟨g₀, hg0⟩ := Option.isSome_iff_exists.mp htop
  obtain ⟨r, hr⟩ := State.topJava?_eq_some.mp hg0
  have hl9 : e.platform.stackLimits (T.setVm s.vm).me = e.platform.stackLimits s.me := X.limits
  have hb9 : (T.setVm s.vm).me.stackBytes = s.me.stackBytes := X.bytes
  refine ⟨X.admits, X.cas, X.clock, hF, ?_, X.hears, X.method, X.code, X.here, X.tail, X.warmed, ?_, ?_, ?_⟩
  · have h := X.room
    have hU : ((T.setVm s.vm).setFrames (.invoking m args :: below)).localsInUse = s.localsInUse := by
      rw [State.localsInUse_invoking hF (meth := meth) (c := c) X.method X.code, State.localsInUse_invoking X.frames X.method X.code]
    simp only [State.hasRoom, Bool.and_eq_true, decide_eq_true_eq] at h ⊢
    obtain ⟨⟨⟨⟨h1, h2, h3, h4, h5, h6⟩, h7⟩, h8⟩, h9⟩ := h
    rw [X.frames, List.length_cons] at h2 h3
    have q1 := X.heapSize
    have q2 := X.used
    simp only [hF, hU, List.length_cons, State.stackLimits_setFrames, State.stackBytes_setFrames, hl9, hb9]
    refine ⟨⟨⟨⟨by omega, by omega, by omega, by omega, by omega, h6⟩, ?_⟩, ?_⟩, X.book⟩
    · show T.heap.size + R'.cells ≤ e.platform.maxCells
      omega
    · show T.slotsUsed + R'.slots ≤ e.platform.maxSlots
      omega
  · rw [State.stackLimits_setFrames]; rfl
  · rw [State.stackBytes_setFrames]; rfl
  · refine ⟨?_, Nat.le_refl _, Nat.le_refl _, ?_, ?_, fun a c9 h9 => ⟨c9, h9, rfl, rfl, fun _ _ => rfl⟩⟩
    · obtain ⟨t, ht, -⟩ := State.frames_cons hr
      show T.setVm s.vm = { ((T.setVm s.vm).setFrames (.invoking m args :: below)).setFrames (T.setVm s.vm).frames with heap := T.heap, slotsUsed := T.slotsUsed }
      rw [State.setFrames_setFrames, State.setFrames_self ht]
      rfl
    · show T.slotsUsed = T.slotsUsed + ((T.heap.toList.drop T.heap.size).map (·.slots.size)).sum
      rw [List.drop_eq_nil_of_le (Nat.le_of_eq Array.length_toList)]
      rfl
    · show ((T.heap.toList.drop T.heap.size).map (·.slots.size)).sum ≤ 0
      rw [List.drop_eq_nil_of_le (Nat.le_of_eq Array.length_toList)]
      exact Nat.le_refl _
/-- 'throw new E()': new; dup; invokespecial; athrow -/
theorem vx_throw0 {cc : ByteArray} {pc : Nat} (hexec : p.tables.exec = Jvm.exec) (hb : c.code = cc) (hl : l.stackTraces = false) {own cls : String} {names : List String} {ik ic mc ms : Nat} {A : Nat → Prop}
    (hown : s.vm.findClass own = some m.cls) (hcls : Bundle.fit cls = true) (hnames : ∀ n ∈ names, Bundle.fit n = true)
    (hk : (Cond.classLink own ik cls).before args s = true) (hini : (Cond.initialized cls).before args s = true) (hat : ∀ w ∈ vx_at0 own ic cls names, w.before args s = true)
    (hgood : ∀ w ∈ Cond.classLink own ik cls :: Cond.initialized cls :: vx_at0 own ic cls names, vx_ot w = true)
    (hU : vx_Zq Bundle.tN "UNASSIGNED_STACK" Bundle.steD A s s.heap) (hN : vx_Zq Bundle.tN "SUPPRESSED_SENTINEL" Bundle.listD A s s.heap) (hS : va_S A s.heap H locs) (hsize : ls.size = c.maxLocals)
    (d0 : decode cc pc = .ok (.new ik, 3)) (d3 : decode cc (pc + 3) = .ok (.dup, 1)) (d4 : decode cc (pc + 4) = .ok (.invokespecial ic, 3)) (d7 : decode cc (pc + 7) = .ok (.athrow, 1))
    (hout : ∀ x ∈ c.exceptionTable.toList, covers x (pc + 7) = false)
    (hRframes : names.length + 3 < R.frames) (hRlocals : (rest.map fun v => v.category).sum + (13 * (names.length + 1) + 42) ≤ R.locals) (hRcells : cells + 1 ≤ R.cells) (hRslots : slots + 6 ≤ R.slots) (hlocks : meth.locks = false)
    (hx : ∀ t : State, s.vm.Alike t.vm → H.size ≤ t.heap.size → (∀ q : Nat, q < H.size → t.heap[q]? = H[q]?) → XC cls s t)
    (hf : ∀ z ∈ locs, free z.base) (hc : cells + 1 ≤ mc) (hs : slots + 6 ≤ ms) :
    W p l e R s m args below meth c H locs cells slots (vx_MQ below Qc XC args s mc ms free) (F0 m pc ls rest) := by
  intro T hT X
  have htr : e.platform.stackTraces = false := (show e.platform.stackTraces = l.stackTraces by rw [X.admits.platform]).trans hl
  have Y := vx_rebase X (R' := { frames := R.frames, locals := R.locals, cells := 1, slots := 6 }) (Nat.le_refl _) (Nat.le_refl _) hRcells hRslots
  obtain ⟨s', hA⟩ : ∃ z, z = (T.setVm s.vm).setFrames (.invoking m args :: below) := ⟨_, rfl⟩
  rw [← hA] at Y
  have hvm : s'.vm = s.vm := by rw [hA]; rfl
  have hhp : s'.heap = H := by rw [hA]; exact hT
  have hW0 : s.WarmedH s'.vm := by rw [hvm]; exact State.WarmedH.refl s
  have hat' : ∀ w ∈ vx_at0 own ic cls names, w.before args s' = true := fun w hw => vx_ot_at hW0 hvm.symm (hgood w (List.mem_cons_of_mem _ (List.mem_cons_of_mem _ hw))) (hat w hw)
  have hk' : (Cond.classLink own ik cls).before args s' = true := vx_ot_at hW0 hvm.symm (hgood _ List.mem_cons_self) hk
  have hini' : (Cond.initialized cls).before args s' = true := vx_ot_at hW0 hvm.symm (hgood _ (List.mem_cons_of_mem _ List.mem_cons_self)) hini
  have hU' : vx_Zq Bundle.tN "UNASSIGNED_STACK" Bundle.steD A s' s'.heap := by rw [hhp]; exact vx_Zq.moved hW0.alike (hU.kept hS.2.1)
  have hN' : vx_Zq Bundle.tN "SUPPRESSED_SENTINEL" Bundle.listD A s' s'.heap := by rw [hhp]; exact vx_Zq.moved hW0.alike (hN.kept hS.2.1)
  have h : ∀ w ∈ Bundle.ownAtoms0 own ic cls names, w.before args s' = true := vx_own hat' (vx_isRefq hU'.1) (vx_isRefq hN'.1) hU'.2.word hN'.2.word
  have hown' : s'.vm.findClass own = some m.cls := by rw [hvm]; exact hown
  have hins : (Cond.instantiable cls 6).before args s' = true := h _ (by simp [Bundle.ownAtoms0])
  obtain ⟨vm₁, cX, kX, hfX, hkX, -, -, X₁, st1⟩ := Y.newCold hexec (own := own) (C := cls) (index := ik) (n := 6) hown' hk' hins hini'
    (g := F0 m pc ls rest) rfl (by rw [hb]; exact d0) (Nat.le_refl _) (Nat.le_refl _)
  generalize hT1 : (T.setVm vm₁).pushCell { cls := cX, slots := kX.instanceTypes.map defaultValue, vm := .none } = T1 at X₁ st1
  have hcat : (Value.ref T.heap.size).category = 1 := rfl
  have hcellA : T1.heap[T.heap.size]? = some (freshCell cX kX) := by rw [← hT1]; exact State.heap_pushCell_size _ _
  have d3' : decode c.code (pc + 3) = .ok (.dup, 1) := by rw [hb]; exact d3
  obtain ⟨U, hsteps, hrun, hend, hW, hsame, ce, hce, hO⟩ := X₁.ctorThrow0 hexec htr (own := own) (cls := cls) (names := names) (ic := ic) hown' hcls hnames h (fun x hx => nomatch hx) hfX hkX hcellA (by rw [hhp, hT]; exact Nat.le_refl _)
    (g := { method := m, pc := pc + 4, locals := ls, stack := .ref T.heap.size :: .ref T.heap.size :: rest, locked := none }) rfl hsize rfl rfl (rest := rest) rfl
    (by rw [hb]; exact d4) (by rw [hb]; exact d7) hout hRframes (by simp only [List.map_cons, List.sum_cons, hcat]; omega) hlocks
  obtain ⟨f1, f2⟩ := vx_frame hsame
  rw [hhp] at f1 f2
  have hWs : s.WarmedH U.vm := State.WarmedH.trans hW0 hW
  have hcl : s.vm.findClass cls = some ce.cls := by
    have h9 := hO.cls
    rw [hvm] at h9
    exact h9
  have hall : s.sameButNew ({ U with vm := s.vm } : State) locs mc ms := by
    subst hA
    obtain ⟨e1, e2⟩ := hsame
    rw [State.setFrames_setFrames] at e1
    have h2 : (T.setVm s.vm).sameButNew ({ U with vm := s.vm } : State) [] (0 + 1) (0 + 6) := ⟨e1, e2⟩
    have h3 := X.same.trans h2
    rw [List.append_nil] at h3
    exact h3.mono hc hs
  refine ⟨U, ?_, .threw T.heap.size, hrun, hend, Or.inr ⟨T.heap.size, rfl, cls, ce, locs, hx U hWs.alike f1 (fun q hq => f2 q hq (fun z hz => nomatch hz)), hce, hO.vm, hcl, hWs, hall, hf⟩⟩
  refine st1 _ ?_
  show Steps p.tables e below (T1.setTop { method := m, pc := pc + 3, locals := ls, stack := .ref T.heap.size :: rest, locked := none }) _
  jvm_step X₁.here [X₁.here.top, hexec, d3', Value.category]
  exact hsteps
/-- 'throw new E("text")': new; dup; ldc; invokespecial; athrow -/
theorem vx_throwS {cc : ByteArray} {pc : Nat} (hexec : p.tables.exec = Jvm.exec) (hb : c.code = cc) (hl : l.stackTraces = false) {own cls text : String} {names : List String} {ik is ic mc ms sa : Nat} {A : Nat → Prop}
    (hown : s.vm.findClass own = some m.cls) (hcls : Bundle.fit cls = true) (hnames : ∀ n ∈ names, Bundle.fit n = true)
    (hk : (Cond.classLink own ik cls).before args s = true) (hini : (Cond.initialized cls).before args s = true) (hstr : vk_R own is text sa s) (hat : ∀ w ∈ vx_atS own ic cls names, w.before args s = true)
    (hgood : ∀ w ∈ Cond.classLink own ik cls :: Cond.initialized cls :: vx_atS own ic cls names, vx_ot w = true)
    (hU : vx_Zq Bundle.tN "UNASSIGNED_STACK" Bundle.steD A s s.heap) (hN : vx_Zq Bundle.tN "SUPPRESSED_SENTINEL" Bundle.listD A s s.heap) (hS : va_S A s.heap H locs) (hsize : ls.size = c.maxLocals)
    (d0 : decode cc pc = .ok (.new ik, 3)) (d3 : decode cc (pc + 3) = .ok (.dup, 1)) (d4 : decode cc (pc + 4) = .ok (.ldc is, 2)) (d6 : decode cc (pc + 6) = .ok (.invokespecial ic, 3)) (d9 : decode cc (pc + 9) = .ok (.athrow, 1))
    (hout : ∀ x ∈ c.exceptionTable.toList, covers x (pc + 9) = false)
    (hRframes : names.length + 3 < R.frames) (hRlocals : (rest.map fun v => v.category).sum + (13 * (names.length + 1) + 43) ≤ R.locals) (hRcells : cells + 1 ≤ R.cells) (hRslots : slots + 6 ≤ R.slots) (hlocks : meth.locks = false)
    (hx : ∀ t : State, s.vm.Alike t.vm → H.size ≤ t.heap.size → (∀ q : Nat, q < H.size → t.heap[q]? = H[q]?) → XC cls s t)
    (hf : ∀ z ∈ locs, free z.base) (hc : cells + 1 ≤ mc) (hs : slots + 6 ≤ ms) :
    W p l e R s m args below meth c H locs cells slots (vx_MQ below Qc XC args s mc ms free) (F0 m pc ls rest) := by
  intro T hT X
  have htr : e.platform.stackTraces = false := (show e.platform.stackTraces = l.stackTraces by rw [X.admits.platform]).trans hl
  have Y := vx_rebase X (R' := { frames := R.frames, locals := R.locals, cells := 1, slots := 6 }) (Nat.le_refl _) (Nat.le_refl _) hRcells hRslots
  obtain ⟨s', hA⟩ : ∃ z, z = (T.setVm s.vm).setFrames (.invoking m args :: below) := ⟨_, rfl⟩
  rw [← hA] at Y
  have hvm : s'.vm = s.vm := by rw [hA]; rfl
  have hhp : s'.heap = H := by rw [hA]; exact hT
  have hW0 : s.WarmedH s'.vm := by rw [hvm]; exact State.WarmedH.refl s
  have hat' : ∀ w ∈ vx_atS own ic cls names, w.before args s' = true := fun w hw => vx_ot_at hW0 hvm.symm (hgood w (List.mem_cons_of_mem _ (List.mem_cons_of_mem _ hw))) (hat w hw)
  have hk' : (Cond.classLink own ik cls).before args s' = true := vx_ot_at hW0 hvm.symm (hgood _ List.mem_cons_self) hk
  have hini' : (Cond.initialized cls).before args s' = true := vx_ot_at hW0 hvm.symm (hgood _ (List.mem_cons_of_mem _ List.mem_cons_self)) hini
  have hU' : vx_Zq Bundle.tN "UNASSIGNED_STACK" Bundle.steD A s' s'.heap := by rw [hhp]; exact vx_Zq.moved hW0.alike (hU.kept hS.2.1)
  have hN' : vx_Zq Bundle.tN "SUPPRESSED_SENTINEL" Bundle.listD A s' s'.heap := by rw [hhp]; exact vx_Zq.moved hW0.alike (hN.kept hS.2.1)
  have h : ∀ w ∈ Bundle.ownAtoms own ic cls names, w.before args s' = true := vx_own hat' (vx_isRefq hU'.1) (vx_isRefq hN'.1) hU'.2.word hN'.2.word
  have hown' : s'.vm.findClass own = some m.cls := by rw [hvm]; exact hown
  have hins : (Cond.instantiable cls 6).before args s' = true := h _ (by simp [Bundle.ownAtoms])
  obtain ⟨vm₁, cX, kX, hfX, hkX, -, -, X₁, st1⟩ := Y.newCold hexec (own := own) (C := cls) (index := ik) (n := 6) hown' hk' hins hini'
    (g := F0 m pc ls rest) rfl (by rw [hb]; exact d0) (Nat.le_refl _) (Nat.le_refl _)
  generalize hT1 : (T.setVm vm₁).pushCell { cls := cX, slots := kX.instanceTypes.map defaultValue, vm := .none } = T1 at X₁ st1
  have hcat : (Value.ref T.heap.size).category = 1 := rfl
  have hcellA : T1.heap[T.heap.size]? = some (freshCell cX kX) := by rw [← hT1]; exact State.heap_pushCell_size _ _
  have d3' : decode c.code (pc + 3) = .ok (.dup, 1) := by rw [hb]; exact d3
  have d4' : decode c.code (pc + 4) = .ok (.ldc is, 2) := by rw [hb]; exact d4
  have hstr' : vk_R own is text sa s' := vk_R.warm hW0 hstr
  obtain ⟨U, hsteps, hrun, hend, hW, hsame, ce, hce, hO⟩ := X₁.ctorThrowS hexec htr (own := own) (cls := cls) (names := names) (ic := ic) hown' hcls hnames h (fun x hx => nomatch hx) hfX hkX hcellA (by rw [hhp, hT]; exact Nat.le_refl _) (msg := .ref sa) rfl
    (g := { method := m, pc := pc + 6, locals := ls, stack := .ref sa :: .ref T.heap.size :: .ref T.heap.size :: rest, locked := none }) rfl hsize rfl rfl (rest := rest) rfl
    (by rw [hb]; exact d6) (by rw [hb]; exact d9) hout hRframes (by simp only [List.map_cons, List.sum_cons, hcat]; omega) hlocks
  obtain ⟨f1, f2⟩ := vx_frame hsame
  rw [hhp] at f1 f2
  have hWs : s.WarmedH U.vm := State.WarmedH.trans hW0 hW
  have hcl : s.vm.findClass cls = some ce.cls := by
    have h9 := hO.cls
    rw [hvm] at h9
    exact h9
  have hall : s.sameButNew ({ U with vm := s.vm } : State) locs mc ms := by
    subst hA
    obtain ⟨e1, e2⟩ := hsame
    rw [State.setFrames_setFrames] at e1
    have h2 : (T.setVm s.vm).sameButNew ({ U with vm := s.vm } : State) [] (0 + 1) (0 + 6) := ⟨e1, e2⟩
    have h3 := X.same.trans h2
    rw [List.append_nil] at h3
    exact h3.mono hc hs
  refine ⟨U, ?_, .threw T.heap.size, hrun, hend, Or.inr ⟨T.heap.size, rfl, cls, ce, locs, hx U hWs.alike f1 (fun q hq => f2 q hq (fun z hz => nomatch hz)), hce, hO.vm, hcl, hWs, hall, hf⟩⟩
  refine st1 _ ?_
  show Steps p.tables e below (T1.setTop { method := m, pc := pc + 3, locals := ls, stack := .ref T.heap.size :: rest, locked := none }) _
  jvm_step X₁.here [X₁.here.top, hexec, d3', Value.category]
  exact X₁.ldcString hexec (own := own) (text := text) (index := is) (a := sa) hown' hstr'.1 hstr'.2
    (g := { method := m, pc := pc + 4, locals := ls, stack := .ref T.heap.size :: .ref T.heap.size :: rest, locked := none }) rfl d4' _ hsteps
/-- 'throw new E("text")', the text by a wide index -/
theorem vx_throwSW {cc : ByteArray} {pc : Nat} (hexec : p.tables.exec = Jvm.exec) (hb : c.code = cc) (hl : l.stackTraces = false) {own cls text : String} {names : List String} {ik is ic mc ms sa : Nat} {A : Nat → Prop}
    (hown : s.vm.findClass own = some m.cls) (hcls : Bundle.fit cls = true) (hnames : ∀ n ∈ names, Bundle.fit n = true)
    (hk : (Cond.classLink own ik cls).before args s = true) (hini : (Cond.initialized cls).before args s = true) (hstr : vk_R own is text sa s) (hat : ∀ w ∈ vx_atS own ic cls names, w.before args s = true)
    (hgood : ∀ w ∈ Cond.classLink own ik cls :: Cond.initialized cls :: vx_atS own ic cls names, vx_ot w = true)
    (hU : vx_Zq Bundle.tN "UNASSIGNED_STACK" Bundle.steD A s s.heap) (hN : vx_Zq Bundle.tN "SUPPRESSED_SENTINEL" Bundle.listD A s s.heap) (hS : va_S A s.heap H locs) (hsize : ls.size = c.maxLocals)
    (d0 : decode cc pc = .ok (.new ik, 3)) (d3 : decode cc (pc + 3) = .ok (.dup, 1)) (d4 : decode cc (pc + 4) = .ok (.ldc_w is, 3)) (d7 : decode cc (pc + 7) = .ok (.invokespecial ic, 3)) (d10 : decode cc (pc + 10) = .ok (.athrow, 1))
    (hout : ∀ x ∈ c.exceptionTable.toList, covers x (pc + 10) = false)
    (hRframes : names.length + 3 < R.frames) (hRlocals : (rest.map fun v => v.category).sum + (13 * (names.length + 1) + 43) ≤ R.locals) (hRcells : cells + 1 ≤ R.cells) (hRslots : slots + 6 ≤ R.slots) (hlocks : meth.locks = false)
    (hx : ∀ t : State, s.vm.Alike t.vm → H.size ≤ t.heap.size → (∀ q : Nat, q < H.size → t.heap[q]? = H[q]?) → XC cls s t)
    (hf : ∀ z ∈ locs, free z.base) (hc : cells + 1 ≤ mc) (hs : slots + 6 ≤ ms) :
    W p l e R s m args below meth c H locs cells slots (vx_MQ below Qc XC args s mc ms free) (F0 m pc ls rest) := by
  intro T hT X
  have htr : e.platform.stackTraces = false := (show e.platform.stackTraces = l.stackTraces by rw [X.admits.platform]).trans hl
  have Y := vx_rebase X (R' := { frames := R.frames, locals := R.locals, cells := 1, slots := 6 }) (Nat.le_refl _) (Nat.le_refl _) hRcells hRslots
  obtain ⟨s', hA⟩ : ∃ z, z = (T.setVm s.vm).setFrames (.invoking m args :: below) := ⟨_, rfl⟩
  rw [← hA] at Y
  have hvm : s'.vm = s.vm := by rw [hA]; rfl
  have hhp : s'.heap = H := by rw [hA]; exact hT
  have hW0 : s.WarmedH s'.vm := by rw [hvm]; exact State.WarmedH.refl s
  have hat' : ∀ w ∈ vx_atS own ic cls names, w.before args s' = true := fun w hw => vx_ot_at hW0 hvm.symm (hgood w (List.mem_cons_of_mem _ (List.mem_cons_of_mem _ hw))) (hat w hw)
  have hk' : (Cond.classLink own ik cls).before args s' = true := vx_ot_at hW0 hvm.symm (hgood _ List.mem_cons_self) hk
  have hini' : (Cond.initialized cls).before args s' = true := vx_ot_at hW0 hvm.symm (hgood _ (List.mem_cons_of_mem _ List.mem_cons_self)) hini
  have hU' : vx_Zq Bundle.tN "UNASSIGNED_STACK" Bundle.steD A s' s'.heap := by rw [hhp]; exact vx_Zq.moved hW0.alike (hU.kept hS.2.1)
  have hN' : vx_Zq Bundle.tN "SUPPRESSED_SENTINEL" Bundle.listD A s' s'.heap := by rw [hhp]; exact vx_Zq.moved hW0.alike (hN.kept hS.2.1)
  have h : ∀ w ∈ Bundle.ownAtoms own ic cls names, w.before args s' = true := vx_own hat' (vx_isRefq hU'.1) (vx_isRefq hN'.1) hU'.2.word hN'.2.word
  have hown' : s'.vm.findClass own = some m.cls := by rw [hvm]; exact hown
  have hins : (Cond.instantiable cls 6).before args s' = true := h _ (by simp [Bundle.ownAtoms])
  obtain ⟨vm₁, cX, kX, hfX, hkX, -, -, X₁, st1⟩ := Y.newCold hexec (own := own) (C := cls) (index := ik) (n := 6) hown' hk' hins hini'
    (g := F0 m pc ls rest) rfl (by rw [hb]; exact d0) (Nat.le_refl _) (Nat.le_refl _)
  generalize hT1 : (T.setVm vm₁).pushCell { cls := cX, slots := kX.instanceTypes.map defaultValue, vm := .none } = T1 at X₁ st1
  have hcat : (Value.ref T.heap.size).category = 1 := rfl
  have hcellA : T1.heap[T.heap.size]? = some (freshCell cX kX) := by rw [← hT1]; exact State.heap_pushCell_size _ _
  have d3' : decode c.code (pc + 3) = .ok (.dup, 1) := by rw [hb]; exact d3
  have d4' : decode c.code (pc + 4) = .ok (.ldc_w is, 3) := by rw [hb]; exact d4
  have hstr' : vk_R own is text sa s' := vk_R.warm hW0 hstr
  obtain ⟨U, hsteps, hrun, hend, hW, hsame, ce, hce, hO⟩ := X₁.ctorThrowS hexec htr (own := own) (cls := cls) (names := names) (ic := ic) hown' hcls hnames h (fun x hx => nomatch hx) hfX hkX hcellA (by rw [hhp, hT]; exact Nat.le_refl _) (msg := .ref sa) rfl
    (g := { method := m, pc := pc + 7, locals := ls, stack := .ref sa :: .ref T.heap.size :: .ref T.heap.size :: rest, locked := none }) rfl hsize rfl rfl (rest := rest) rfl
    (by rw [hb]; exact d7) (by rw [hb]; exact d10) hout hRframes (by simp only [List.map_cons, List.sum_cons, hcat]; omega) hlocks
  obtain ⟨f1, f2⟩ := vx_frame hsame
  rw [hhp] at f1 f2
  have hWs : s.WarmedH U.vm := State.WarmedH.trans hW0 hW
  have hcl : s.vm.findClass cls = some ce.cls := by
    have h9 := hO.cls
    rw [hvm] at h9
    exact h9
  have hall : s.sameButNew ({ U with vm := s.vm } : State) locs mc ms := by
    subst hA
    obtain ⟨e1, e2⟩ := hsame
    rw [State.setFrames_setFrames] at e1
    have h2 : (T.setVm s.vm).sameButNew ({ U with vm := s.vm } : State) [] (0 + 1) (0 + 6) := ⟨e1, e2⟩
    have h3 := X.same.trans h2
    rw [List.append_nil] at h3
    exact h3.mono hc hs
  refine ⟨U, ?_, .threw T.heap.size, hrun, hend, Or.inr ⟨T.heap.size, rfl, cls, ce, locs, hx U hWs.alike f1 (fun q hq => f2 q hq (fun z hz => nomatch hz)), hce, hO.vm, hcl, hWs, hall, hf⟩⟩
  refine st1 _ ?_
  show Steps p.tables e below (T1.setTop { method := m, pc := pc + 3, locals := ls, stack := .ref T.heap.size :: rest, locked := none }) _
  jvm_step X₁.here [X₁.here.top, hexec, d3', Value.category]
  exact X₁.ldcStringW hexec (own := own) (text := text) (index := is) (a := sa) hown' hstr'.1 hstr'.2
    (g := { method := m, pc := pc + 4, locals := ls, stack := .ref T.heap.size :: .ref T.heap.size :: rest, locked := none }) rfl d4' _ hsteps
end Ends
section Bodies
variable {l : Launch}
theorem vx_ofW {y : MethodName} {ws ws' : List Cond} {rm : Room} {Pc : Array Value → State → Prop} {Qc : Array Value → State → Outcome → State → Prop} {XC : String → State → State → Prop} {mc ms : Nat} {free : Addr → Prop} {cc : ByteArray} {maxL : Nat} {ret : Option FieldType}
    (hy : plainName y.cls = true) (hw : ws = Cond.code y cc maxL ret :: ws')
    (body : ∀ p e s m args below meth c s₁, BodyLoose p l y (headSpec ws rm) cc maxL ret e s m args below meth c s₁ → c.maxLocals = maxL → (∀ x ∈ c.exceptionTable.toList, False) → Pc args s →
      W p l e (headSpec ws rm).room s m args below meth c s.heap [] 0 0 (vx_MQ below Qc XC args s mc ms free) (entryFrame m args maxL)) : vx_Met l y ws rm Pc Qc XC mc ms free := by
  refine MetFree.of_bodyS (code := cc) (maxLocals := maxL) (ret := ret) hy ?_ ?_
  · intro args s m h hn
    obtain ⟨meth, c, h1, h2, h3, h4, h5, h6, -, -⟩ := Cond.code_spec hn (atoms_spec (ws := ws) h _ (by rw [hw]; exact List.mem_cons_self))
    exact ⟨meth, c, h1, h2, h3, h4, h5, h6⟩
  · intro p e s m args below meth c s₁ B hml hP _
    have hh0 : s₁.heap = s.heap := by rw [B.state]; rfl
    have ht : ∀ x ∈ c.exceptionTable.toList, False := by
      obtain ⟨meth9, c9, h1, h2, -, -, -, -, h7, -⟩ := Cond.code_spec B.named (atoms_spec (ws := ws) B.pre _ (by rw [hw]; exact List.mem_cons_self))
      cases Option.some.inj (h1.symm.trans B.method)
      cases Option.some.inj (h2.symm.trans (Stand.of_body B).code)
      intro x hx
      rw [Array.isEmpty_iff.mp h7] at hx
      cases hx
    obtain ⟨t, a1, o, b1, b2, b3⟩ := body p e s m args below meth c s₁ B hml ht hP s₁ hh0 (Stand.of_body B)
    exact ⟨t, o, a1, b1, b2, b3⟩
/-- the table of a body with handlers -/
theorem vx_table {p : Program} {x y : MethodName} {S : Spec} {cc bytes : ByteArray} {maxL maxL' : Nat} {ret ret' : Option FieldType} {e : Env} {s s₁ : State} {m : MethodId} {args : Array Value} {below : List Frame} {meth : Method} {c : Code} {hh : List (Nat × Nat × Nat × Nat)}
    (B : BodyLoose p l y S cc maxL ret e s m args below meth c s₁) (h : (Cond.codeWith y bytes maxL' ret' hh).before args s = true) : c.exceptionTable.toList = tableOf hh := by
  obtain ⟨m9, meth9, c9, hn9, h1, h2, -, -, h6, -⟩ := Cond.codeWith_spec h
  cases Option.some.inj (hn9.symm.trans B.named)
  cases Option.some.inj (h1.symm.trans B.method)
  cases Option.some.inj (h2.symm.trans (Stand.of_body B).code)
  rw [← h6, table_eq]
end Bodies
end VXA
/-! ===== END ===== -/
/-! ===== BEGIN a static call of a method with an exception table ===== -/
section VXS
variable {p : Program} {l : Launch} {e : Env} {R : Room} {s : State} {m : MethodId} {args : Array Value} {below : List Frame} {meth : Method} {c : Code} {T : State} {H : Heap} {locs : List Loc} {cells slots : Nat}
abbrev vx_CSW (R : Room) (s : State) (args : Array Value) (own : String) (index : Nat) (y : MethodName) (bytes : ByteArray) (maxL : Nat) (ret : Option FieldType) (hh : List (Nat × Nat × Nat × Nat)) (ws : List Cond) (rm : Room) (mc ms n : Nat) : Prop :=
  (rm.cells = mc ∧ rm.slots = ms ∧ rm.frames + 1 ≤ R.frames ∧ 8 + (maxL + 11) + rm.locals ≤ R.locals ∧ (∀ w ∈ ws, ∀ (a' : Array Value) (U : State), s.WarmedH U.vm → w.before a' U = true) ∧ Cond.codeWith y bytes maxL ret hh ∈ ws) ∧
  (Cond.codeWith y bytes maxL ret hh).before args s = true ∧ (Cond.initialized y.cls).before args s = true ∧ (y.cls ≠ "java/lang/invoke/MethodHandle" ∧ y.cls ≠ "java/lang/invoke/VarHandle") ∧
  (∀ sig, parseMethodDescriptor y.desc = some sig → n = sig.parameters.length) ∧ (Cond.methodLink own index y).before args s = true ∧ (Cond.static y).before args s = true
theorem vx_cwSW {own : String} {index maxL mc ms : Nat} {y : MethodName} {bytes : ByteArray} {ret : Option FieldType} {hh : List (Nat × Nat × Nat × Nat)} {Ts ws ws' : List Cond} {rm : Room} (n : Nat) (ht : ∀ w ∈ Ts, w.before args s = true) (hT : GoodIn Ts (va_wsS own index y ws)) (hw : ws = Cond.codeWith y bytes maxL ret hh :: ws') (hrc : rm.cells = mc) (hrs : rm.slots = ms)
    (hd : y.cls ≠ "java/lang/invoke/MethodHandle" ∧ y.cls ≠ "java/lang/invoke/VarHandle" ∧ (parseMethodDescriptor y.desc).map (fun d => d.parameters.length) = some n) (hR : rm.frames + 1 ≤ R.frames ∧ 8 + (maxL + 11) + rm.locals ≤ R.locals) :
    vx_CSW R s args own index y bytes maxL ret hh ws rm mc ms n := by
  have ok : ∀ w ∈ va_wsS own index y ws, w.before args s = true := fun w h => ht w (hT w h).1
  have hG : GoodIn Ts ws := fun w h => hT w (by unfold va_wsS; exact List.mem_append_right _ h)
  have hc : Cond.codeWith y bytes maxL ret hh ∈ ws := by rw [hw]; exact List.mem_cons_self
  refine ⟨⟨hrc, hrs, hR.1, hR.2, pay_in ht hG, hc⟩, ht _ (hG _ hc).1, ok _ (by simp [va_wsS]), ⟨hd.1, hd.2.1⟩, fun sig h => ?_, ok _ (by simp [va_wsS]), ok _ (by simp [va_wsS])⟩
  have h2 := hd.2.2
  rw [h] at h2
  exact (Option.some.inj h2).symm
theorem vx_callSW (X : Stand p l e R s m args below meth c T locs cells slots) (hexec : p.tables.exec = Jvm.exec) {own : String} {index : Nat} {y : MethodName} {bytes : ByteArray} {maxL : Nat} {ret : Option FieldType} {hh : List (Nat × Nat × Nat × Nat)}
    (hown : s.vm.findClass own = some m.cls) (hlink : (Cond.methodLink own index y).before args s = true) (hstat : (Cond.static y).before args s = true) (hinit : (Cond.initialized y.cls).before args s = true)
    (hcode : (Cond.codeWith y bytes maxL ret hh).before args s = true) (hy : y.cls ≠ "java/lang/invoke/MethodHandle" ∧ y.cls ≠ "java/lang/invoke/VarHandle")
    {W9 : Nat} {Pre : Pt → Array Value → Prop} {Post : Pt → Array Value → Option Value → Pt → Prop} (hK : Back l R p e below s args y 3 W9 Pre Post)
    {g : JFrame} (hg : g.method = m) (hsize : g.locals.size = c.maxLocals) {argsL rest : List Value} (hlen : ∀ sig, parseMethodDescriptor y.desc = some sig → argsL.length = sig.parameters.length)
    (hstack : g.stack = argsL.reverse ++ rest) (hW : 2 * g.monitorRoom + (rest.map fun v => v.category).sum ≤ W9) (hdg : decode c.code g.pc = .ok (.invokestatic index, 3))
    (hpre : ∀ vm₁, s.WarmedH vm₁ → Pre ⟨T.setVm vm₁, locs, cells, slots⟩ argsL.toArray) :
    ∃ (v : Option Value) (vm₁ : Vm) (B : Pt), s.WarmedH vm₁ ∧ Stand p l e R s m args below meth c B.U B.locs B.cells B.slots ∧ Post ⟨T.setVm vm₁, locs, cells, slots⟩ argsL.toArray v B ∧
      ∀ target, Steps p.tables e below (B.U.setTop { g with pc := g.pc + 3, stack := v.toList ++ rest }) target → Steps p.tables e below (T.setTop g) target := by
  obtain ⟨mk, methM, cM, hnamed, hmethM, -, -, -, -, -, -, hsigM⟩ := Cond.codeWith_spec hcode
  have hstatic : methM.isStatic = true := Cond.static_spec hnamed hmethM hstat
  obtain ⟨kP, hkP, -⟩ := className_of_methodNamed hnamed
  have hinitP : kP.init = .initialized := Cond.initialized_spec (findClass_of_methodNamed hnamed) hkP hinit
  obtain ⟨vm₁, X₁, hstep₁⟩ := X.invokestatic hexec hown hlink hnamed hmethM hstatic hkP hinitP hy (g := g) hg (argsL := argsL) (rest := rest) (hlen _ hsigM) hstack hdg
  obtain ⟨v, B, X', hpost, hsteps⟩ := hK m meth c ⟨T.setVm vm₁, locs, cells, slots⟩ { g with stack := rest } (.invokestatic index) mk argsL.toArray X₁ hg hsize hdg hW (X₁.named hnamed) (hpre vm₁ X₁.warmed)
  exact ⟨v, vm₁, B, X₁.warmed, X', hpost, fun target h => hstep₁ _ fun acts => by rw [doInvoke_state]; exact hsteps.trans h⟩
theorem vx_runSW {y : MethodName} {bytes cc : ByteArray} {maxL nL mc ms n index : Nat} {ret : Option FieldType} {hh : List (Nat × Nat × Nat × Nat)} {ws : List Cond} {rm : Room} {Pc : Array Value → State → Prop} {Qc : Array Value → State → Outcome → State → Prop} {free : Addr → Prop} {Ts : List Cond} {own : String} {As rest : List Value} {g : JFrame}
    (S : CallFix p m c cc nL s args Ts own) (hM : Met l y ws rm Pc Qc mc ms free) (cw : vx_CSW R s args own index y bytes maxL ret hh ws rm mc ms n) (hp : PreS s H Pc As)
    (hg : g.method = m) (hn : As.length = n) (hsize : g.locals.size = nL) (hstack : g.stack = As.reverse ++ rest) (hW : 2 * g.monitorRoom + (rest.map fun v => v.category).sum ≤ 8) (hdg : decode cc g.pc = .ok (.invokestatic index, 3)) (hf : cells + mc ≤ R.cells ∧ slots + ms ≤ R.slots) :
    va_Run p l e R s m args below meth c H locs cells slots mc ms g rest (Qc As.toArray) (free) := by
  obtain ⟨⟨hrc, hrs, hfr, hlo, hws, hcw⟩, hcode, hini, hy, hlen, hl, hstt⟩ := cw
  have hK : Back l R p e below s args y 3 8 (PreOf R mc ms Pc) (PostOf Qc mc ms free) := va_backW (hh := hh) (bytes := bytes) (maxL := maxL) (ret := ret) hM hp.1 hrc hrs hfr hlo hws hcw (fun a' U hW => word_at hW (Or.inl (by first | rfl | simp [Cond.onTables, Cond.keeps, Cond.steady])) hini)
  obtain ⟨hx, hb, hml, ho, -⟩ := S
  intro T hT X
  obtain ⟨v, vm₁, ⟨U', l2, c2, s2⟩, hW₁, X', ⟨g', mk, t, L, e1, e2, hq, h1, hL, h2, h3⟩, st⟩ := vx_callSW X hx (hh := hh) (bytes := bytes) (maxL := maxL) (ret := ret) ho hl hstt hini hcode hy hK hg (hsize.trans hml.symm) (argsL := As) (rest := rest) (fun sig h => hn.trans (hlen sig h)) hstack hW (by rw [hb]; exact hdg)
    (fun vm₁ hW₁ => ⟨hf.1, hf.2, hp.2 (T.setVm vm₁) hT hW₁⟩)
  dsimp only [Pt.U, Pt.locs, Pt.cells, Pt.slots] at X' e1 e2 h1 h2 h3 st
  subst h1; subst h2; subst h3
  exact ⟨v, (T.setVm vm₁).calling g' mk As.toArray, t, U', L, hT, X', hL, e1, e2, hq, st⟩
/-- not caught here, past rows that name other classes: it goes on to the caller -/
theorem vx_outP {p : Program} {l : Launch} {e : Env} {R : Room} {s : State} {m : MethodId} {args : Array Value} {below : List Frame} {meth : Method} {c : Code} {H : Heap} {locs : List Loc} {cells slots : Nat} {free : Addr → Prop} {ls : Array Slot} {rest : List Value} {Qc : Array Value → State → Outcome → State → Prop} {XC : String → State → State → Prop}
    {pc : Nat} {own E : String} {ce : Cell} {q : Addr} {mc ms : Nat} (hown : s.vm.findClass own = some m.cls) (hlocks : meth.locks = false)
    (hpass : ∀ z ∈ c.exceptionTable.toList, covers z pc = false ∨ (z.catchType ≠ 0 ∧ ∃ nm : String, (Cond.classLink own z.catchType nm).before args s = true ∧ va_Nc E nm s)) (hcell : H[q]? = some ce) (hv : ce.vm = .none) (hcl : s.vm.findClass E = some ce.cls)
    (hx : ∀ t : State, t.heap = H → s.vm.Alike t.vm → XC E s t) (hf : ∀ z ∈ locs, free z.base) (hc : cells ≤ mc) (hs : slots ≤ ms) :
    vx_W p l e R s m args below meth c H locs cells slots (vx_MQ below Qc XC args s mc ms free) (F0 m pc ls rest) q := by
  intro T hT X
  have hpl : e.platform.magicAccessors = ({} : Platform).magicAccessors := by rw [X.admits.platform]
  obtain ⟨vm', hW', X', st⟩ := X.outThrough hlocks q (g := F0 m pc ls rest) rfl rfl rfl (cell := ce) (by rw [hT]; exact hcell) (by rw [hv]; rfl)
    (by obtain ⟨k9, h9, -⟩ := Vm.findClass_spec hcl; exact ⟨k9, h9⟩) (fun z hz => by
      rcases hpass z hz with h | ⟨hz0, nm, hl1, hn1⟩
      · exact Or.inl h
      · obtain ⟨c6, hc6, hcl6⟩ := Cond.classLink_spec hown hl1 e.platform hpl
        obtain ⟨a8, b8, h1, h2, h3⟩ := hn1
        cases Option.some.inj (h1.symm.trans hcl)
        cases Option.some.inj (h2.symm.trans hc6)
        exact Or.inr ⟨hz0, _, hcl6, h3⟩)
  obtain ⟨g₀, hfr⟩ := X'.frames_eq
  have hcell9 : ((T.setVm vm').setFrames (.throwing q :: below)).heap[q]? = some ce := by
    show T.heap[q]? = some ce
    rw [hT]; exact hcell
  have hend : Ended ((T.setVm vm').setFrames (.throwing q :: below)) below (.threw q) := State.frames_setFrames _ (State.cur_lt_of_frames hfr)
  refine ⟨(T.setVm vm').setFrames (.throwing q :: below), ?_, .threw q, X'.here.running, hend, Or.inr ⟨q, rfl, E, ce, locs, hx _ hT (X'.ends _).1.alike, hcell9, hv, hcl, (X'.ends _).1, (X'.ends _).2.mono hc hs, hf⟩⟩
  rw [X.pushThrowing_eq]
  exact st
/-- a thing of a world lies in the heap -/
theorem vx_lt {D : va_G} {cl : List vw_C} {ws : va_W} {H1 : Heap} (h : va_P D cl ws H1) {k : Nat} {q : Nat × va_E} (hk : ws[k]? = some q) : q.1 < H1.size := (h k q hk).lt
end VXS
/-! ===== END ===== -/
/-! ===== BEGIN methods with a table of their own: called by a name, returning or throwing ===== -/
section VXH
/-! vx_backW, vx_callVX, vx_callSX, vx_callVW, vx_runVW, vx_runVX, vx_runSX, vx_ofWH follow the same proofs as their sisters above (Free/Laws.lean, Shelf42/LK1.lean); vx_outP calls Shelf42/NT130.lean (outThrough). -/
section
variable {l : Launch} {R : Room} {p : Program} {e : Env} {below : List Frame} {s : State} {sargs : Array Value} {y : MethodName} {len W9 : Nat}
theorem vx_backW {ws : List Cond} {rm : Room} {Pc : Array Value → State → Prop} {Qc : Array Value → State → Outcome → State → Prop} {XC : String → State → State → Prop} {mc ms : Nat} {free : Addr → Prop} {bytes : ByteArray} {maxL : Nat} {ret : Option FieldType} {hh : List (Nat × Nat × Nat × Nat)}
    (hM : vx_Met l y ws rm Pc Qc XC mc ms free) (hblind : FrameBlind Pc) (hrc : rm.cells = mc) (hrs : rm.slots = ms)
    (hframes : rm.frames + 1 ≤ R.frames) (hlocals : W9 + (maxL + 11) + rm.locals ≤ R.locals)
    (hws : ∀ w ∈ ws, ∀ a' U, s.WarmedH U.vm → w.before a' U = true) (hcode : Cond.codeWith y bytes maxL ret hh ∈ ws) (hinit : ∀ a' U, s.WarmedH U.vm → (Cond.initialized y.cls).before a' U = true) :
    vx_Back l R p e below s sargs y len W9 (PreOf R mc ms Pc) (PostOf Qc mc ms free) (vx_Post XC mc ms free) := by
  intro m meth c A g ig mk a X hg hsize hdg hW hn hp
  have h1 : (headSpec ws rm).pre.before a A.U = true := atoms_intro fun w hw => hws w hw _ _ X.warmed
  have h2 : (Cond.codeWith y bytes maxL ret hh).before a A.U = true := hws _ hcode _ _ X.warmed
  have h3 : (Cond.initialized y.cls).before a A.U = true := hinit _ _ X.warmed
  have h4 : A.cells + (headSpec ws rm).room.cells ≤ R.cells := by rw [show (headSpec ws rm).room.cells = mc from hrc]; exact hp.1
  have h5 : A.slots + (headSpec ws rm).room.slots ≤ R.slots := by rw [show (headSpec ws rm).room.slots = ms from hrs]; exact hp.2.1
  have hPc : Pc a (A.U.calling g mk a) := hblind _ _ _ _ hp.2.2
  obtain ⟨U, Ls, c0, s0⟩ := A
  dsimp only [Pt.U, Pt.locs, Pt.cells, Pt.slots] at h1 h2 h3 h4 h5 X hn hPc ⊢
  obtain ⟨m9, methY, cY, hn9, hmY, hcY, -, hlY, -⟩ := Cond.codeWith_spec h2
  cases Option.some.inj (hn9.symm.trans hn)
  obtain ⟨kY, hkY, -⟩ := className_of_methodNamed hn
  have hinitY : kY.init = .initialized := Cond.initialized_spec (findClass_of_methodNamed hn) hkY h3
  have h : At U g.method c below := by rw [hg]; exact X.here
  have hlocals9 : W9 + (maxL + 11) + (headSpec ws rm).room.locals ≤ R.locals := hlocals
  have happ : (headSpec ws rm).appliesLoose y e.platform (U.calling g mk a) = true :=
    Spec.appliesLoose_calling (g := g) h hdg hn hkY hinitY
      (X.room_calling (g := g) (R' := (headSpec ws rm).room) hsize hmY hcY hframes (by rw [hlY]; omega) h4 h5) h1
  obtain ⟨mid, hmid⟩ := h.above
  have hfr : (U.setTop g).frames = (.java g :: mid) ++ below := by rw [State.frames_setTop' g h.top, hmid]; rfl
  obtain ⟨o, s₂, hsteps, -, hend, hq⟩ := Steps.callFree hM p X.admits X.cas X.clock (acts := []) hfr happ hPc trivial
  have hq' : vx_Q Qc XC mc ms free a (U.calling g mk a) o s₂ := hq
  rw [State.frames_setTop' g h.top] at hend
  obtain ⟨g₀, hg0⟩ := Option.isSome_iff_exists.mp h.top
  obtain ⟨r, hr⟩ := State.topJava?_eq_some.mp hg0
  have hr' : (({ U with heap := s₂.heap, slotsUsed := s₂.slotsUsed } : State).setVm s₂.vm).frames = .java g₀ :: r := hr
  rcases hq' with ⟨hqc, L, hfe, hL⟩ | ⟨q, rfl, E, ce, L, hx, hce, hcv, hcl, hW₂, hsm, hL⟩
  · obtain ⟨⟨v, rfl⟩, hW₂, e2, q2, q3, q4, q5, q6⟩ := id hfe
    have e3 : s₂ = ({ (U.calling g mk a).setFrames s₂.frames with heap := s₂.heap, slotsUsed := s₂.slotsUsed } : State).setVm s₂.vm := by
      have : s₂ = ({ s₂ with vm := (U.calling g mk a).vm } : State).setVm s₂.vm := rfl
      rw [e2] at this
      exact this
    obtain ⟨c₂, i₂, len₂, hc₂, hd₂, hf₂⟩ := hend
    have hW' : U.WarmedH s₂.vm := hW₂
    have hcc : c₂ = c := by
      have h1 : s₂.code? g.method = U.code? g.method := by
        rw [State.code?_eq, State.code?_eq, hW'.alike.method?]
      exact Option.some.inj (hc₂.symm.trans (h1.trans h.code))
    subst hcc
    have hlen : len₂ = len := by rw [hdg] at hd₂; cases hd₂; rfl
    subst hlen
    have hs₂ : s₂ = (({ U with heap := s₂.heap, slotsUsed := s₂.slotsUsed } : State).setVm s₂.vm).setTop { g with pc := g.pc + len₂, stack := v.toList ++ g.stack } := by
      refine e3.trans ?_
      rw [hf₂, State.calling_eq h.top, State.setFrames_setFrames, State.setTop_of_frames _ hr', hr]
      rfl
    have hsame : U.sameButNew ({ U with heap := s₂.heap, slotsUsed := s₂.slotsUsed } : State) L mc ms := by
      refine ⟨?_, q2, q3, q4, q5, q6⟩
      obtain ⟨t, ht, -⟩ := State.frames_cons hr
      show ({ U with heap := s₂.heap, slotsUsed := s₂.slotsUsed } : State) = { U.setFrames U.frames with heap := s₂.heap, slotsUsed := s₂.slotsUsed }
      rw [State.setFrames_self ht]
    subst hg
    refine Or.inl ⟨v, ⟨(({ U with heap := s₂.heap, slotsUsed := s₂.slotsUsed } : State).setVm s₂.vm), Ls ++ L, c0 + mc, s0 + ms⟩,
      ⟨X.admits, X.cas, X.clock, X.frames, X.room, X.hears, X.method, X.code, (X.here.setHeapUsed s₂.heap s₂.slotsUsed).setVm hW'.alike, X.tail, State.WarmedH.trans X.warmed hW', X.limits, X.bytes, X.same.trans (hsame.setVm s.vm)⟩,
      ⟨g, mk, s₂, L, rfl, rfl, hqc, rfl, hL, rfl, rfl⟩, ?_⟩
    show Steps p.tables e below _ ((({ U with heap := s₂.heap, slotsUsed := s₂.slotsUsed } : State).setVm s₂.vm).setTop { g with pc := g.pc + len₂, stack := v.toList ++ g.stack })
    rw [← hs₂]
    exact hsteps
  · obtain ⟨e2, q2, q3, q4, q5, q6⟩ := id hsm
    have e3 : s₂ = ({ (U.calling g mk a).setFrames s₂.frames with heap := s₂.heap, slotsUsed := s₂.slotsUsed } : State).setVm s₂.vm := by
      have : s₂ = ({ s₂ with vm := (U.calling g mk a).vm } : State).setVm s₂.vm := rfl
      rw [e2] at this
      exact this
    have hf₂ : s₂.frames = .throwing q :: .java g :: U.frames.tail := hend
    have hW' : U.WarmedH s₂.vm := hW₂
    have hs₂ : s₂ = ((({ U with heap := s₂.heap, slotsUsed := s₂.slotsUsed } : State).setVm s₂.vm).setTop g).pushFrame (.throwing q) := by
      refine e3.trans ?_
      rw [hf₂, State.calling_eq h.top, State.setFrames_setFrames, State.pushFrame, State.frames_setTop _ hr', State.setTop_of_frames _ hr', State.setFrames_setFrames, hr]
      rfl
    have hsame : U.sameButNew ({ U with heap := s₂.heap, slotsUsed := s₂.slotsUsed } : State) L mc ms := by
      refine ⟨?_, q2, q3, q4, q5, q6⟩
      obtain ⟨t, ht, -⟩ := State.frames_cons hr
      show ({ U with heap := s₂.heap, slotsUsed := s₂.slotsUsed } : State) = { U.setFrames U.frames with heap := s₂.heap, slotsUsed := s₂.slotsUsed }
      rw [State.setFrames_self ht]
    subst hg
    refine Or.inr ⟨q, ⟨(({ U with heap := s₂.heap, slotsUsed := s₂.slotsUsed } : State).setVm s₂.vm), Ls ++ L, c0 + mc, s0 + ms⟩,
      ⟨X.admits, X.cas, X.clock, X.frames, X.room, X.hears, X.method, X.code, (X.here.setHeapUsed s₂.heap s₂.slotsUsed).setVm hW'.alike, X.tail, State.WarmedH.trans X.warmed hW', X.limits, X.bytes, X.same.trans (hsame.setVm s.vm)⟩,
      ⟨g, mk, s₂, L, E, ce, rfl, rfl, hx, hce, hcv, hcl, rfl, hL, rfl, rfl⟩, ?_⟩
    show Steps p.tables e below _ (((({ U with heap := s₂.heap, slotsUsed := s₂.slotsUsed } : State).setVm s₂.vm).setTop g).pushFrame (.throwing q))
    rw [← hs₂]
    exact hsteps
end
variable {p : Program} {l : Launch} {e : Env} {R : Room} {s : State} {m : MethodId} {args : Array Value} {below : List Frame} {meth : Method} {c : Code} {T : State} {H : Heap} {locs : List Loc} {cells slots : Nat}
theorem vx_callVX (X : Stand p l e R s m args below meth c T locs cells slots) (hexec : p.tables.exec = Jvm.exec) {own C : String} {index : Nat} {y : MethodName} {bytes : ByteArray} {maxL : Nat} {ret : Option FieldType} {hh : List (Nat × Nat × Nat × Nat)}
    (hown : s.vm.findClass own = some m.cls) (hlink : (Cond.methodLink own index y).before args s = true) (hinst : (Cond.instanceMethod y).before args s = true) (hsel : (Cond.selects C y y).before args s = true)
    (hcode : (Cond.codeWith y bytes maxL ret hh).before args s = true) (hy : y.cls ≠ "java/lang/invoke/MethodHandle" ∧ y.cls ≠ "java/lang/invoke/VarHandle")
    {W9 : Nat} {Pre : Pt → Array Value → Prop} {Post : Pt → Array Value → Option Value → Pt → Prop} {PostX : Pt → Array Value → Addr → Pt → Prop} (hK : vx_Back l R p e below s args y 3 W9 Pre Post PostX)
    {b : Addr} {cellB : Cell} (hcell : T.heap[b]? = some cellB) (hobj : cellB.vm.isStatics = false) (hcls : s.vm.findClass C = some cellB.cls)
    {g : JFrame} (hg : g.method = m) (hsize : g.locals.size = c.maxLocals) {argsL rest : List Value} (hlen : ∀ sig, parseMethodDescriptor y.desc = some sig → argsL.length = sig.parameters.length)
    (hstack : g.stack = argsL.reverse ++ .ref b :: rest) (hW : 2 * g.monitorRoom + (rest.map fun v => v.category).sum ≤ W9) (hdg : decode c.code g.pc = .ok (.invokevirtual index, 3))
    (hpre : ∀ vm₁, s.WarmedH vm₁ → Pre ⟨T.setVm vm₁, locs, cells, slots⟩ (Value.ref b :: argsL).toArray) :
    (∃ (v : Option Value) (vm₁ : Vm) (B : Pt), s.WarmedH vm₁ ∧ Stand p l e R s m args below meth c B.U B.locs B.cells B.slots ∧ Post ⟨T.setVm vm₁, locs, cells, slots⟩ (Value.ref b :: argsL).toArray v B ∧
      ∀ target, Steps p.tables e below (B.U.setTop { g with pc := g.pc + 3, stack := v.toList ++ rest }) target → Steps p.tables e below (T.setTop g) target) ∨
    (∃ (q : Addr) (vm₁ : Vm) (B : Pt), s.WarmedH vm₁ ∧ Stand p l e R s m args below meth c B.U B.locs B.cells B.slots ∧ PostX ⟨T.setVm vm₁, locs, cells, slots⟩ (Value.ref b :: argsL).toArray q B ∧
      Steps p.tables e below (T.setTop g) ((B.U.setTop { g with stack := rest }).pushFrame (.throwing q))) := by
  obtain ⟨mk, methM, hnamed, hmethM, hstM, habM⟩ := Cond.instanceMethod_spec hinst
  obtain ⟨m8, methM', cM, hn8, hmethM', -, -, -, -, -, -, hsigM⟩ := Cond.codeWith_spec hcode
  cases Option.some.inj (hn8.symm.trans hnamed)
  cases hmethM.symm.trans hmethM'
  obtain ⟨c2, r2, m2, q1, q2, q3, q4, kP, hkP, hkPi⟩ := Cond.selects_spec hsel
  cases hcls.symm.trans q1
  cases (State.methodFound?_of_named hnamed hy).symm.trans q2
  cases hnamed.symm.trans q3
  have hselP : selectMethod e.platform s.vm cellB.cls mk = .method mk := by rw [Launch.admits_selectMethod X.admits]; exact q4
  obtain ⟨vm₁, X₁, hstep₁⟩ := X.invokevirtual hexec hown hlink hnamed hmethM hstM hkP hkPi hy (a := b) (cell := cellB) hcell
    (fun z h => by rw [h] at hobj; cases hobj) hselP hmethM habM hkP hkPi (g := g) hg (argsL := argsL) (rest := rest) (hlen _ hsigM) hstack hdg
  rcases hK m meth c ⟨T.setVm vm₁, locs, cells, slots⟩ { g with stack := rest } (.invokevirtual index) mk (Value.ref b :: argsL).toArray X₁ hg hsize hdg hW (X₁.named hnamed) (hpre vm₁ X₁.warmed) with ⟨v, B, X', hpost, hsteps⟩ | ⟨q, B, X', hpost, hsteps⟩
  · exact Or.inl ⟨v, vm₁, B, X₁.warmed, X', hpost, fun target h => hstep₁ _ fun acts => by rw [doInvoke_state]; exact hsteps.trans h⟩
  · exact Or.inr ⟨q, vm₁, B, X₁.warmed, X', hpost, hstep₁ _ fun acts => by rw [doInvoke_state]; exact hsteps⟩
theorem vx_callSX (X : Stand p l e R s m args below meth c T locs cells slots) (hexec : p.tables.exec = Jvm.exec) {own : String} {index : Nat} {y : MethodName} {bytes : ByteArray} {maxL : Nat} {ret : Option FieldType} {hh : List (Nat × Nat × Nat × Nat)}
    (hown : s.vm.findClass own = some m.cls) (hlink : (Cond.methodLink own index y).before args s = true) (hstat : (Cond.static y).before args s = true) (hinit : (Cond.initialized y.cls).before args s = true)
    (hcode : (Cond.codeWith y bytes maxL ret hh).before args s = true) (hy : y.cls ≠ "java/lang/invoke/MethodHandle" ∧ y.cls ≠ "java/lang/invoke/VarHandle")
    {W9 : Nat} {Pre : Pt → Array Value → Prop} {Post : Pt → Array Value → Option Value → Pt → Prop} {PostX : Pt → Array Value → Addr → Pt → Prop} (hK : vx_Back l R p e below s args y 3 W9 Pre Post PostX)
    {g : JFrame} (hg : g.method = m) (hsize : g.locals.size = c.maxLocals) {argsL rest : List Value} (hlen : ∀ sig, parseMethodDescriptor y.desc = some sig → argsL.length = sig.parameters.length)
    (hstack : g.stack = argsL.reverse ++ rest) (hW : 2 * g.monitorRoom + (rest.map fun v => v.category).sum ≤ W9) (hdg : decode c.code g.pc = .ok (.invokestatic index, 3))
    (hpre : ∀ vm₁, s.WarmedH vm₁ → Pre ⟨T.setVm vm₁, locs, cells, slots⟩ argsL.toArray) :
    (∃ (v : Option Value) (vm₁ : Vm) (B : Pt), s.WarmedH vm₁ ∧ Stand p l e R s m args below meth c B.U B.locs B.cells B.slots ∧ Post ⟨T.setVm vm₁, locs, cells, slots⟩ argsL.toArray v B ∧
      ∀ target, Steps p.tables e below (B.U.setTop { g with pc := g.pc + 3, stack := v.toList ++ rest }) target → Steps p.tables e below (T.setTop g) target) ∨
    (∃ (q : Addr) (vm₁ : Vm) (B : Pt), s.WarmedH vm₁ ∧ Stand p l e R s m args below meth c B.U B.locs B.cells B.slots ∧ PostX ⟨T.setVm vm₁, locs, cells, slots⟩ argsL.toArray q B ∧
      Steps p.tables e below (T.setTop g) ((B.U.setTop { g with stack := rest }).pushFrame (.throwing q))) := by
  obtain ⟨mk, methM, cM, hnamed, hmethM, -, -, -, -, -, -, hsigM⟩ := Cond.codeWith_spec hcode
  have hstatic : methM.isStatic = true := Cond.static_spec hnamed hmethM hstat
  obtain ⟨kP, hkP, -⟩ := className_of_methodNamed hnamed
  have hinitP : kP.init = .initialized := Cond.initialized_spec (findClass_of_methodNamed hnamed) hkP hinit
  obtain ⟨vm₁, X₁, hstep₁⟩ := X.invokestatic hexec hown hlink hnamed hmethM hstatic hkP hinitP hy (g := g) hg (argsL := argsL) (rest := rest) (hlen _ hsigM) hstack hdg
  rcases hK m meth c ⟨T.setVm vm₁, locs, cells, slots⟩ { g with stack := rest } (.invokestatic index) mk argsL.toArray X₁ hg hsize hdg hW (X₁.named hnamed) (hpre vm₁ X₁.warmed) with ⟨v, B, X', hpost, hsteps⟩ | ⟨q, B, X', hpost, hsteps⟩
  · exact Or.inl ⟨v, vm₁, B, X₁.warmed, X', hpost, fun target h => hstep₁ _ fun acts => by rw [doInvoke_state]; exact hsteps.trans h⟩
  · exact Or.inr ⟨q, vm₁, B, X₁.warmed, X', hpost, hstep₁ _ fun acts => by rw [doInvoke_state]; exact hsteps⟩
theorem vx_callVW (X : Stand p l e R s m args below meth c T locs cells slots) (hexec : p.tables.exec = Jvm.exec) {own C : String} {index : Nat} {y : MethodName} {bytes : ByteArray} {maxL : Nat} {ret : Option FieldType} {hh : List (Nat × Nat × Nat × Nat)}
    (hown : s.vm.findClass own = some m.cls) (hlink : (Cond.methodLink own index y).before args s = true) (hinst : (Cond.instanceMethod y).before args s = true) (hsel : (Cond.selects C y y).before args s = true)
    (hcode : (Cond.codeWith y bytes maxL ret hh).before args s = true) (hy : y.cls ≠ "java/lang/invoke/MethodHandle" ∧ y.cls ≠ "java/lang/invoke/VarHandle")
    {W9 : Nat} {Pre : Pt → Array Value → Prop} {Post : Pt → Array Value → Option Value → Pt → Prop} (hK : Back l R p e below s args y 3 W9 Pre Post)
    {b : Addr} {cellB : Cell} (hcell : T.heap[b]? = some cellB) (hobj : cellB.vm.isStatics = false) (hcls : s.vm.findClass C = some cellB.cls)
    {g : JFrame} (hg : g.method = m) (hsize : g.locals.size = c.maxLocals) {argsL rest : List Value} (hlen : ∀ sig, parseMethodDescriptor y.desc = some sig → argsL.length = sig.parameters.length)
    (hstack : g.stack = argsL.reverse ++ .ref b :: rest) (hW : 2 * g.monitorRoom + (rest.map fun v => v.category).sum ≤ W9) (hdg : decode c.code g.pc = .ok (.invokevirtual index, 3))
    (hpre : ∀ vm₁, s.WarmedH vm₁ → Pre ⟨T.setVm vm₁, locs, cells, slots⟩ (Value.ref b :: argsL).toArray) :
    ∃ (v : Option Value) (vm₁ : Vm) (B : Pt), s.WarmedH vm₁ ∧ Stand p l e R s m args below meth c B.U B.locs B.cells B.slots ∧ Post ⟨T.setVm vm₁, locs, cells, slots⟩ (Value.ref b :: argsL).toArray v B ∧
      ∀ target, Steps p.tables e below (B.U.setTop { g with pc := g.pc + 3, stack := v.toList ++ rest }) target → Steps p.tables e below (T.setTop g) target := by
  obtain ⟨mk, methM, hnamed, hmethM, hstM, habM⟩ := Cond.instanceMethod_spec hinst
  obtain ⟨m8, methM', cM, hn8, hmethM', -, -, -, -, -, -, hsigM⟩ := Cond.codeWith_spec hcode
  cases Option.some.inj (hn8.symm.trans hnamed)
  cases hmethM.symm.trans hmethM'
  obtain ⟨c2, r2, m2, q1, q2, q3, q4, kP, hkP, hkPi⟩ := Cond.selects_spec hsel
  cases hcls.symm.trans q1
  cases (State.methodFound?_of_named hnamed hy).symm.trans q2
  cases hnamed.symm.trans q3
  have hselP : selectMethod e.platform s.vm cellB.cls mk = .method mk := by rw [Launch.admits_selectMethod X.admits]; exact q4
  obtain ⟨vm₁, X₁, hstep₁⟩ := X.invokevirtual hexec hown hlink hnamed hmethM hstM hkP hkPi hy (a := b) (cell := cellB) hcell
    (fun z h => by rw [h] at hobj; cases hobj) hselP hmethM habM hkP hkPi (g := g) hg (argsL := argsL) (rest := rest) (hlen _ hsigM) hstack hdg
  obtain ⟨v, B, X', hpost, hsteps⟩ := hK m meth c ⟨T.setVm vm₁, locs, cells, slots⟩ { g with stack := rest } (.invokevirtual index) mk (Value.ref b :: argsL).toArray X₁ hg hsize hdg hW (X₁.named hnamed) (hpre vm₁ X₁.warmed)
  exact ⟨v, vm₁, B, X₁.warmed, X', hpost, fun target h => hstep₁ _ fun acts => by rw [doInvoke_state]; exact hsteps.trans h⟩
abbrev vx_CVW (R : Room) (s : State) (args : Array Value) (own C : String) (index : Nat) (y : MethodName) (bytes : ByteArray) (maxL : Nat) (ret : Option FieldType) (hh : List (Nat × Nat × Nat × Nat)) (ws : List Cond) (rm : Room) (mc ms n : Nat) : Prop :=
  (rm.cells = mc ∧ rm.slots = ms ∧ rm.frames + 1 ≤ R.frames ∧ 8 + (maxL + 11) + rm.locals ≤ R.locals ∧ (∀ w ∈ ws, ∀ (a' : Array Value) (U : State), s.WarmedH U.vm → w.before a' U = true) ∧ Cond.codeWith y bytes maxL ret hh ∈ ws) ∧
  (Cond.codeWith y bytes maxL ret hh).before args s = true ∧ (Cond.initialized y.cls).before args s = true ∧ (y.cls ≠ "java/lang/invoke/MethodHandle" ∧ y.cls ≠ "java/lang/invoke/VarHandle") ∧
  (∀ sig, parseMethodDescriptor y.desc = some sig → n = sig.parameters.length) ∧ (Cond.methodLink own index y).before args s = true ∧ (Cond.instanceMethod y).before args s = true ∧ (Cond.selects C y y).before args s = true
theorem vx_cwVW {own C : String} {index maxL mc ms : Nat} {y : MethodName} {bytes : ByteArray} {ret : Option FieldType} {hh : List (Nat × Nat × Nat × Nat)} {Ts ws ws' : List Cond} {rm : Room} (n : Nat) (ht : ∀ w ∈ Ts, w.before args s = true) (hT : GoodIn Ts (wsV own index C y ws)) (hw : ws = Cond.codeWith y bytes maxL ret hh :: ws') (hrc : rm.cells = mc) (hrs : rm.slots = ms)
    (hd : y.cls = C ∧ y.cls ≠ "java/lang/invoke/MethodHandle" ∧ y.cls ≠ "java/lang/invoke/VarHandle" ∧ (parseMethodDescriptor y.desc).map (fun d => d.parameters.length) = some n) (hR : rm.frames + 1 ≤ R.frames ∧ 8 + (maxL + 11) + rm.locals ≤ R.locals) :
    vx_CVW R s args own C index y bytes maxL ret hh ws rm mc ms n := by
  obtain ⟨hC, hd⟩ := hd
  subst hC
  have ok : ∀ w ∈ wsV own index y.cls y ws, w.before args s = true := fun w h => ht w (hT w h).1
  have hG : GoodIn Ts ws := fun w h => hT w (by unfold wsV; exact List.mem_append_right _ h)
  have hc : Cond.codeWith y bytes maxL ret hh ∈ ws := by rw [hw]; exact List.mem_cons_self
  refine ⟨⟨hrc, hrs, hR.1, hR.2, pay_in ht hG, hc⟩, ht _ (hG _ hc).1, ok _ (by simp [wsV]), ⟨hd.1, hd.2.1⟩, fun sig h => ?_, ok _ (by simp [wsV]), ok _ (by simp [wsV]), ok _ (by simp [wsV])⟩
  have h2 := hd.2.2
  rw [h] at h2
  exact (Option.some.inj h2).symm
theorem vx_runVW {y : MethodName} {bytes cc : ByteArray} {maxL nL mc ms n index : Nat} {ret : Option FieldType} {hh : List (Nat × Nat × Nat × Nat)} {ws : List Cond} {rm : Room} {Pc : Array Value → State → Prop} {Qc : Array Value → State → Outcome → State → Prop} {free : Addr → Prop} {Ts : List Cond} {own C : String} {b : Addr} {As rest : List Value} {g : JFrame}
    (S : CallFix p m c cc nL s args Ts own) (hM : Met l y ws rm Pc Qc mc ms free) (cw : vx_CVW R s args own C index y bytes maxL ret hh ws rm mc ms n) (hp : PreV s H C b Pc As)
    (hg : g.method = m) (hn : As.length = n) (hsize : g.locals.size = nL) (hstack : g.stack = As.reverse ++ .ref b :: rest) (hW : 2 * g.monitorRoom + (rest.map fun v => v.category).sum ≤ 8) (hdg : decode cc g.pc = .ok (.invokevirtual index, 3)) (hf : cells + mc ≤ R.cells ∧ slots + ms ≤ R.slots) :
    va_Run p l e R s m args below meth c H locs cells slots mc ms g rest (Qc (Value.ref b :: As).toArray) free := by
  obtain ⟨⟨hrc, hrs, hfr, hlo, hws, hcw⟩, hcode, hini, hy, hlen, hl, hin, hse⟩ := cw
  have hK : Back l R p e below s args y 3 8 (PreOf R mc ms Pc) (PostOf Qc mc ms free) := va_backW (hh := hh) (bytes := bytes) (maxL := maxL) (ret := ret) hM hp.1 hrc hrs hfr hlo hws hcw (fun a' U hW => word_at hW (Or.inl (by first | rfl | simp [Cond.onTables, Cond.keeps, Cond.steady])) hini)
  obtain ⟨hx, hb, hml, ho, -⟩ := S
  obtain ⟨-, ⟨cellB, hcB, hoB, hclB⟩, hPc⟩ := hp
  intro T hT X
  obtain ⟨v, vm₁, ⟨U', l2, c2, s2⟩, hW₁, X', ⟨g', mk, t, L, e1, e2, hq, h1, hL, h2, h3⟩, st⟩ := vx_callVW X hx (C := C) (hh := hh) (bytes := bytes) (maxL := maxL) (ret := ret) ho hl hin hse hcode hy hK (by rw [hT]; exact hcB) hoB hclB hg (hsize.trans hml.symm) (argsL := As) (rest := rest) (fun sig h => hn.trans (hlen sig h)) hstack hW (by rw [hb]; exact hdg)
    (fun vm₁ hW₁ => ⟨hf.1, hf.2, hPc (T.setVm vm₁) hT hW₁⟩)
  dsimp only [Pt.U, Pt.locs, Pt.cells, Pt.slots] at X' e1 e2 h1 h2 h3 st
  subst h1; subst h2; subst h3
  exact ⟨v, (T.setVm vm₁).calling g' mk (Value.ref b :: As).toArray, t, U', L, hT, X', hL, e1, e2, hq, st⟩
section
variable {y : MethodName} {bytes cc : ByteArray} {maxL nL mc ms n index : Nat} {ret : Option FieldType} {ws : List Cond} {rm : Room} {Pc : Array Value → State → Prop} {Qc : Array Value → State → Outcome → State → Prop} {XC : String → State → State → Prop} {free : Addr → Prop} {Ts : List Cond} {own C : String} {b : Addr} {As rest : List Value} {g : JFrame}
theorem vx_runVX {hh : List (Nat × Nat × Nat × Nat)} (S : CallFix p m c cc nL s args Ts own) (hM : vx_Met l y ws rm Pc Qc XC mc ms free) (cw : vx_CVW R s args own C index y bytes maxL ret hh ws rm mc ms n) (hp : PreV s H C b Pc As)
    (hg : g.method = m) (hn : As.length = n) (hsize : g.locals.size = nL) (hstack : g.stack = As.reverse ++ .ref b :: rest) (hW : 2 * g.monitorRoom + (rest.map fun v => v.category).sum ≤ 8) (hdg : decode cc g.pc = .ok (.invokevirtual index, 3)) (hf : cells + mc ≤ R.cells ∧ slots + ms ≤ R.slots) :
    vx_Run p l e R s m args below meth c H locs cells slots mc ms g rest (Qc (Value.ref b :: As).toArray) XC free := by
  obtain ⟨⟨hrc, hrs, hfr, hlo, hws, hcw⟩, hcode, hini, hy, hlen, hl, hin, hse⟩ := cw
  have hK : vx_Back l R p e below s args y 3 8 (PreOf R mc ms Pc) (PostOf Qc mc ms free) (vx_Post XC mc ms free) := vx_backW (hh := hh) (bytes := bytes) (maxL := maxL) (ret := ret) hM hp.1 hrc hrs hfr hlo hws hcw (fun a' U hW => word_at hW (Or.inl (by first | rfl | simp [Cond.onTables, Cond.keeps, Cond.steady])) hini)
  obtain ⟨hx, hb, hml, ho, -⟩ := S
  obtain ⟨-, ⟨cellB, hcB, hoB, hclB⟩, hPc⟩ := hp
  intro T hT X
  rcases vx_callVX X hx (C := C) (hh := hh) (bytes := bytes) (maxL := maxL) (ret := ret) ho hl hin hse hcode hy hK (by rw [hT]; exact hcB) hoB hclB hg (hsize.trans hml.symm) (argsL := As) (rest := rest) (fun sig h => hn.trans (hlen sig h)) hstack hW (by rw [hb]; exact hdg)
    (fun vm₁ hW₁ => ⟨hf.1, hf.2, hPc (T.setVm vm₁) hT hW₁⟩) with ⟨v, vm₁, ⟨U', l2, c2, s2⟩, hW₁, X', ⟨g', mk, t, L, e1, e2, hq, h1, hL, h2, h3⟩, st⟩ | ⟨q, vm₁, ⟨U', l2, c2, s2⟩, hW₁, X', ⟨g', mk, t, L, E, ce, e1, e2, hq, hce, hcv, hcl, h1, hL, h2, h3⟩, st⟩
  · dsimp only [Pt.U, Pt.locs, Pt.cells, Pt.slots] at X' e1 e2 h1 h2 h3 st
    subst h1; subst h2; subst h3
    exact Or.inl ⟨v, (T.setVm vm₁).calling g' mk (Value.ref b :: As).toArray, t, U', L, hT, X', hL, e1, e2, hq, st⟩
  · dsimp only [Pt.U, Pt.locs, Pt.cells, Pt.slots] at X' e1 e2 h1 h2 h3 st hcl
    subst h1; subst h2; subst h3
    exact Or.inr ⟨q, (T.setVm vm₁).calling g' mk (Value.ref b :: As).toArray, t, U', L, E, ce, hT, X', hL, e1, e2, hq, hce, hcv, vx_cls hW₁ hcl, st⟩
theorem vx_runSX {hh : List (Nat × Nat × Nat × Nat)} (S : CallFix p m c cc nL s args Ts own) (hM : vx_Met l y ws rm Pc Qc XC mc ms free) (cw : vx_CSW R s args own index y bytes maxL ret hh ws rm mc ms n) (hp : PreS s H Pc As)
    (hg : g.method = m) (hn : As.length = n) (hsize : g.locals.size = nL) (hstack : g.stack = As.reverse ++ rest) (hW : 2 * g.monitorRoom + (rest.map fun v => v.category).sum ≤ 8) (hdg : decode cc g.pc = .ok (.invokestatic index, 3)) (hf : cells + mc ≤ R.cells ∧ slots + ms ≤ R.slots) :
    vx_Run p l e R s m args below meth c H locs cells slots mc ms g rest (Qc As.toArray) XC free := by
  obtain ⟨⟨hrc, hrs, hfr, hlo, hws, hcw⟩, hcode, hini, hy, hlen, hl, hstt⟩ := cw
  have hK : vx_Back l R p e below s args y 3 8 (PreOf R mc ms Pc) (PostOf Qc mc ms free) (vx_Post XC mc ms free) := vx_backW (hh := hh) (bytes := bytes) (maxL := maxL) (ret := ret) hM hp.1 hrc hrs hfr hlo hws hcw (fun a' U hW => word_at hW (Or.inl (by first | rfl | simp [Cond.onTables, Cond.keeps, Cond.steady])) hini)
  obtain ⟨hx, hb, hml, ho, -⟩ := S
  intro T hT X
  rcases vx_callSX X hx (hh := hh) (bytes := bytes) (maxL := maxL) (ret := ret) ho hl hstt hini hcode hy hK hg (hsize.trans hml.symm) (argsL := As) (rest := rest) (fun sig h => hn.trans (hlen sig h)) hstack hW (by rw [hb]; exact hdg)
    (fun vm₁ hW₁ => ⟨hf.1, hf.2, hp.2 (T.setVm vm₁) hT hW₁⟩) with ⟨v, vm₁, ⟨U', l2, c2, s2⟩, hW₁, X', ⟨g', mk, t, L, e1, e2, hq, h1, hL, h2, h3⟩, st⟩ | ⟨q, vm₁, ⟨U', l2, c2, s2⟩, hW₁, X', ⟨g', mk, t, L, E, ce, e1, e2, hq, hce, hcv, hcl, h1, hL, h2, h3⟩, st⟩
  · dsimp only [Pt.U, Pt.locs, Pt.cells, Pt.slots] at X' e1 e2 h1 h2 h3 st
    subst h1; subst h2; subst h3
    exact Or.inl ⟨v, (T.setVm vm₁).calling g' mk As.toArray, t, U', L, hT, X', hL, e1, e2, hq, st⟩
  · dsimp only [Pt.U, Pt.locs, Pt.cells, Pt.slots] at X' e1 e2 h1 h2 h3 st hcl
    subst h1; subst h2; subst h3
    exact Or.inr ⟨q, (T.setVm vm₁).calling g' mk As.toArray, t, U', L, E, ce, hT, X', hL, e1, e2, hq, hce, hcv, vx_cls hW₁ hcl, st⟩
end
end VXH
theorem vx_ofWH {l : Launch} {y : MethodName} {ws ws' : List Cond} {rm : Room} {Pc : Array Value → State → Prop} {Qc : Array Value → State → Outcome → State → Prop} {XC : String → State → State → Prop} {mc ms : Nat} {free : Addr → Prop} {cc : ByteArray} {maxL : Nat} {ret : Option FieldType} {hh : List (Nat × Nat × Nat × Nat)}
    (hy : plainName y.cls = true) (hw : ws = Cond.codeWith y cc maxL ret hh :: ws')
    (body : ∀ p e s m args below meth c s₁, BodyLoose p l y (headSpec ws rm) cc maxL ret e s m args below meth c s₁ → c.maxLocals = maxL → Pc args s →
      W p l e (headSpec ws rm).room s m args below meth c s.heap [] 0 0 (vx_MQ below Qc XC args s mc ms free) (entryFrame m args maxL)) : vx_Met l y ws rm Pc Qc XC mc ms free := by
  refine MetFree.of_bodyS (code := cc) (maxLocals := maxL) (ret := ret) hy ?_ ?_
  · intro args s m h hn
    obtain ⟨m9, meth, c, hn9, h1, h2, h3, h4, -, h5, h6, -⟩ := Cond.codeWith_spec (atoms_spec (ws := ws) h _ (by rw [hw]; exact List.mem_cons_self))
    cases hn.symm.trans hn9
    exact ⟨meth, c, h1, h2, h3, h4, h5, h6⟩
  · intro p e s m args below meth c s₁ B hml hP _
    have hh0 : s₁.heap = s.heap := by rw [B.state]; rfl
    obtain ⟨t, a1, o, b1, b2, b3⟩ := body p e s m args below meth c s₁ B hml hP s₁ hh0 (Stand.of_body B)
    exact ⟨t, o, a1, b1, b2, b3⟩
/-! ===== END ===== -/
end
section
/-! ===== BEGIN printed: names, fields, word lists, decode rows ===== -/
def RX0 : String := "HourClock$Elements"
def TX0 : u_T := fun k => match k with
  | 0 => ("HourClock$Elements", "count", "I", false)
  | 1 => ("HourClock$Elements", "length", "[I", true)
  | 2 => ("HourClock$Elements", "time", "[I", true)
  | 3 => ("HourClock$Elements", "rank", "[I", true)
  | 4 => ("HourClock$Elements", "state", "[I", true)
  | _ => ("HourClock$Elements", "begun", "[I", true)
def tyX0 : Nat → FieldType := fun k => match k with
  | 0 => .int
  | 1 => .array .int
  | 2 => .array .int
  | 3 => .array .int
  | 4 => .array .int
  | _ => .array .int
abbrev wsX00 : List Cond := u_ws RX0 TX0 6
theorem nmX0 : ∀ a, a < 6 → ∀ b, b < 6 → a ≠ b → (TX0 a).2.1 ≠ (TX0 b).2.1 := by decide +kernel
theorem tyX0_ok : ∀ k, k < 6 → parseFieldDescriptor (TX0 k).2.2.1 = some (tyX0 k) := by decide +kernel
abbrev cX0_init : ByteArray := prog_2_method_1_code
def yX0_init : MethodName := ⟨RX0, "<init>", "()V"⟩
abbrev cX0_copyFrom : ByteArray := prog_2_method_2_code
def yX0_copyFrom : MethodName := ⟨RX0, "copyFrom", "(LHourClock$Elements;)V"⟩
abbrev cX0_add : ByteArray := prog_2_method_3_code
def yX0_add : MethodName := ⟨RX0, "add", "(III)V"⟩
abbrev cX0_allWait : ByteArray := prog_2_method_4_code
def yX0_allWait : MethodName := ⟨RX0, "allWait", "()V"⟩
abbrev cX0_has : ByteArray := prog_2_method_5_code
def yX0_has : MethodName := ⟨RX0, "has", "(I)Z"⟩
abbrev cX0_is : ByteArray := prog_2_method_6_code
def yX0_is : MethodName := ⟨RX0, "is", "(II)Z"⟩
abbrev cX0_waits : ByteArray := prog_2_method_7_code
def yX0_waits : MethodName := ⟨RX0, "waits", "(I)Z"⟩
abbrev cX0_isFixed : ByteArray := prog_2_method_8_code
def yX0_isFixed : MethodName := ⟨RX0, "isFixed", "(I)Z"⟩
abbrev cX0_begunAt : ByteArray := prog_2_method_9_code
def yX0_begunAt : MethodName := ⟨RX0, "begunAt", "(I)I"⟩
abbrev cX0_lateness : ByteArray := prog_2_method_10_code
def yX0_lateness : MethodName := ⟨RX0, "lateness", "(I)I"⟩
abbrev cX0_countThatAre : ByteArray := prog_2_method_11_code
def yX0_countThatAre : MethodName := ⟨RX0, "countThatAre", "(I)I"⟩
abbrev cX0_nextFixed : ByteArray := prog_2_method_12_code
def yX0_nextFixed : MethodName := ⟨RX0, "nextFixed", "(I)I"⟩
abbrev cX0_timeOrHourEnd : ByteArray := prog_2_method_13_code
def yX0_timeOrHourEnd : MethodName := ⟨RX0, "timeOrHourEnd", "(I)I"⟩
abbrev cX0_goal : ByteArray := prog_2_method_14_code
def yX0_goal : MethodName := ⟨RX0, "goal", "()I"⟩
abbrev cX0_inSection : ByteArray := prog_2_method_15_code
def yX0_inSection : MethodName := ⟨RX0, "inSection", "(I)Z"⟩
abbrev cX0_firstThatWaits : ByteArray := prog_2_method_16_code
def yX0_firstThatWaits : MethodName := ⟨RX0, "firstThatWaits", "()I"⟩
abbrev cX0_waitingLength : ByteArray := prog_2_method_17_code
def yX0_waitingLength : MethodName := ⟨RX0, "waitingLength", "(II)I"⟩
abbrev cX0_sectionLength : ByteArray := prog_2_method_18_code
def yX0_sectionLength : MethodName := ⟨RX0, "sectionLength", "()I"⟩
abbrev cX0_leastOfSection : ByteArray := prog_2_method_19_code
def yX0_leastOfSection : MethodName := ⟨RX0, "leastOfSection", "()I"⟩
abbrev cX0_latestBegin : ByteArray := prog_2_method_20_code
def yX0_latestBegin : MethodName := ⟨RX0, "latestBegin", "(I)I"⟩
abbrev cX0_tell : ByteArray := prog_2_method_21_code
def yX0_tell : MethodName := ⟨RX0, "tell", "(II)I"⟩
def RX1 : String := "HourClock$Fillers"
def TX1 : u_T := fun k => match k with
  | 0 => ("HourClock$Fillers", "count", "I", false)
  | 1 => ("HourClock$Fillers", "length", "[I", true)
  | 2 => ("HourClock$Fillers", "state", "[I", true)
  | 3 => ("HourClock$Fillers", "begun", "[I", true)
  | _ => ("HourClock$Fillers", "walk", "LHourClock$SetWalk;", true)
def tyX1 : Nat → FieldType := fun k => match k with
  | 0 => .int
  | 1 => .array .int
  | 2 => .array .int
  | 3 => .array .int
  | _ => .object "HourClock$SetWalk"
abbrev wsX10 : List Cond := u_ws RX1 TX1 5
theorem nmX1 : ∀ a, a < 5 → ∀ b, b < 5 → a ≠ b → (TX1 a).2.1 ≠ (TX1 b).2.1 := by decide +kernel
theorem tyX1_ok : ∀ k, k < 5 → parseFieldDescriptor (TX1 k).2.2.1 = some (tyX1 k) := by decide +kernel
abbrev cX1_init : ByteArray := prog_3_method_1_code
def yX1_init : MethodName := ⟨RX1, "<init>", "()V"⟩
abbrev cX1_copyFrom : ByteArray := prog_3_method_2_code
def yX1_copyFrom : MethodName := ⟨RX1, "copyFrom", "(LHourClock$Fillers;)V"⟩
abbrev cX1_add : ByteArray := prog_3_method_3_code
def yX1_add : MethodName := ⟨RX1, "add", "(I)V"⟩
abbrev cX1_allWait : ByteArray := prog_3_method_4_code
def yX1_allWait : MethodName := ⟨RX1, "allWait", "()V"⟩
abbrev cX1_has : ByteArray := prog_3_method_5_code
def yX1_has : MethodName := ⟨RX1, "has", "(I)Z"⟩
abbrev cX1_countThatWait : ByteArray := prog_3_method_6_code
def yX1_countThatWait : MethodName := ⟨RX1, "countThatWait", "()I"⟩
abbrev cX1_chooseFor : ByteArray := prog_3_method_7_code
def yX1_chooseFor : MethodName := ⟨RX1, "chooseFor", "(I)I"⟩
abbrev cX1_leastSumAbove : ByteArray := prog_3_method_8_code
def yX1_leastSumAbove : MethodName := ⟨RX1, "leastSumAbove", "(I)I"⟩
abbrev cX1_tell : ByteArray := prog_3_method_9_code
def yX1_tell : MethodName := ⟨RX1, "tell", "(II)I"⟩
def RX2 : String := "HourClock$Hour"
def TX2 : u_T := fun k => match k with
  | 0 => ("HourClock$Hour", "elements", "LHourClock$Elements;", true)
  | 1 => ("HourClock$Hour", "fillers", "LHourClock$Fillers;", true)
  | 2 => ("HourClock$Hour", "log", "LHourClock$Log;", true)
  | 3 => ("HourClock$Hour", "second", "I", false)
  | 4 => ("HourClock$Hour", "over", "Z", false)
  | 5 => ("HourClock$Hour", "silentSeconds", "I", false)
  | 6 => ("HourClock$Hour", "greatestLateness", "I", false)
  | 7 => ("HourClock$Hour", "hoursBegun", "I", false)
  | 8 => ("HourClock$Hour", "airKind", "I", false)
  | 9 => ("HourClock$Hour", "airNumber", "I", false)
  | _ => ("HourClock$Hour", "airEnd", "I", false)
def tyX2 : Nat → FieldType := fun k => match k with
  | 0 => .object "HourClock$Elements"
  | 1 => .object "HourClock$Fillers"
  | 2 => .object "HourClock$Log"
  | 3 => .int
  | 4 => .boolean
  | 5 => .int
  | 6 => .int
  | 7 => .int
  | 8 => .int
  | 9 => .int
  | _ => .int
abbrev wsX20 : List Cond := u_ws RX2 TX2 11
theorem nmX2 : ∀ a, a < 11 → ∀ b, b < 11 → a ≠ b → (TX2 a).2.1 ≠ (TX2 b).2.1 := by decide +kernel
theorem tyX2_ok : ∀ k, k < 11 → parseFieldDescriptor (TX2 k).2.2.1 = some (tyX2 k) := by decide +kernel
abbrev cX2_init : ByteArray := prog_4_method_1_code
def yX2_init : MethodName := ⟨RX2, "<init>", "()V"⟩
abbrev cX2_copyFrom : ByteArray := prog_4_method_2_code
def yX2_copyFrom : MethodName := ⟨RX2, "copyFrom", "(LHourClock$Hour;)V"⟩
abbrev cX2_beginAnew : ByteArray := prog_4_method_3_code
def yX2_beginAnew : MethodName := ⟨RX2, "beginAnew", "()V"⟩
abbrev cX2_becomeEmpty : ByteArray := prog_4_method_4_code
def yX2_becomeEmpty : MethodName := ⟨RX2, "becomeEmpty", "()V"⟩
abbrev cX2_clearAir : ByteArray := prog_4_method_5_code
def yX2_clearAir : MethodName := ⟨RX2, "clearAir", "()V"⟩
abbrev cX2_runTo : ByteArray := prog_4_method_6_code
def yX2_runTo : MethodName := ⟨RX2, "runTo", "(I)V"⟩
abbrev cX2_passAir : ByteArray := prog_4_method_7_code
def yX2_passAir : MethodName := ⟨RX2, "passAir", "(I)V"⟩
abbrev cX2_endAir : ByteArray := prog_4_method_8_code
def yX2_endAir : MethodName := ⟨RX2, "endAir", "()V"⟩
abbrev cX2_findNext : ByteArray := prog_4_method_9_code
def yX2_findNext : MethodName := ⟨RX2, "findNext", "()V"⟩
abbrev cX2_dropForTime : ByteArray := prog_4_method_10_code
def yX2_dropForTime : MethodName := ⟨RX2, "dropForTime", "()V"⟩
abbrev cX2_dropElement : ByteArray := prog_4_method_11_code
def yX2_dropElement : MethodName := ⟨RX2, "dropElement", "(I)V"⟩
abbrev cX2_fillGap : ByteArray := prog_4_method_12_code
def yX2_fillGap : MethodName := ⟨RX2, "fillGap", "(I)V"⟩
abbrev cX2_beginElement : ByteArray := prog_4_method_13_code
def yX2_beginElement : MethodName := ⟨RX2, "beginElement", "(I)V"⟩
abbrev cX2_putOnAir : ByteArray := prog_4_method_14_code
def yX2_putOnAir : MethodName := ⟨RX2, "putOnAir", "(III)V"⟩
abbrev cX2_canHaveLength : ByteArray := prog_4_method_15_code
def yX2_canHaveLength : MethodName := ⟨RX2, "canHaveLength", "(II)Z"⟩
abbrev cX2_giveLength : ByteArray := prog_4_method_16_code
def yX2_giveLength : MethodName := ⟨RX2, "giveLength", "(II)V"⟩
abbrev cX2_tell : ByteArray := prog_4_method_17_code
def yX2_tell : MethodName := ⟨RX2, "tell", "(I)I"⟩
def RX3 : String := "HourClock$Log"
def TX3 : u_T := fun k => match k with
  | 0 => ("HourClock$Log", "count", "I", false)
  | 1 => ("HourClock$Log", "second", "[I", true)
  | 2 => ("HourClock$Log", "kind", "[I", true)
  | _ => ("HourClock$Log", "number", "[I", true)
def tyX3 : Nat → FieldType := fun k => match k with
  | 0 => .int
  | 1 => .array .int
  | 2 => .array .int
  | _ => .array .int
abbrev wsX30 : List Cond := u_ws RX3 TX3 4
theorem nmX3 : ∀ a, a < 4 → ∀ b, b < 4 → a ≠ b → (TX3 a).2.1 ≠ (TX3 b).2.1 := by decide +kernel
theorem tyX3_ok : ∀ k, k < 4 → parseFieldDescriptor (TX3 k).2.2.1 = some (tyX3 k) := by decide +kernel
abbrev cX3_init : ByteArray := prog_5_method_1_code
def yX3_init : MethodName := ⟨RX3, "<init>", "()V"⟩
abbrev cX3_copyFrom : ByteArray := prog_5_method_2_code
def yX3_copyFrom : MethodName := ⟨RX3, "copyFrom", "(LHourClock$Log;)V"⟩
abbrev cX3_add : ByteArray := prog_5_method_3_code
def yX3_add : MethodName := ⟨RX3, "add", "(III)V"⟩
abbrev cX3_has : ByteArray := prog_5_method_4_code
def yX3_has : MethodName := ⟨RX3, "has", "(I)Z"⟩
abbrev cX3_tell : ByteArray := prog_5_method_5_code
def yX3_tell : MethodName := ⟨RX3, "tell", "(II)I"⟩
def RX4 : String := "HourClock$SetWalk"
def TX4 : u_T := fun k => match k with
  | 0 => ("HourClock$SetWalk", "filler", "[I", true)
  | 1 => ("HourClock$SetWalk", "length", "[I", true)
  | 2 => ("HourClock$SetWalk", "count", "I", false)
  | 3 => ("HourClock$SetWalk", "set", "I", false)
  | 4 => ("HourClock$SetWalk", "sum", "I", false)
  | _ => ("HourClock$SetWalk", "size", "I", false)
def tyX4 : Nat → FieldType := fun k => match k with
  | 0 => .array .int
  | 1 => .array .int
  | 2 => .int
  | 3 => .int
  | 4 => .int
  | _ => .int
abbrev wsX40 : List Cond := u_ws RX4 TX4 6
theorem nmX4 : ∀ a, a < 6 → ∀ b, b < 6 → a ≠ b → (TX4 a).2.1 ≠ (TX4 b).2.1 := by decide +kernel
theorem tyX4_ok : ∀ k, k < 6 → parseFieldDescriptor (TX4 k).2.2.1 = some (tyX4 k) := by decide +kernel
abbrev cX4_init : ByteArray := prog_6_method_1_code
def yX4_init : MethodName := ⟨RX4, "<init>", "()V"⟩
abbrev cX4_begin : ByteArray := prog_6_method_2_code
def yX4_begin : MethodName := ⟨RX4, "begin", "(LHourClock$Fillers;)I"⟩
abbrev cX4_go : ByteArray := prog_6_method_3_code
def yX4_go : MethodName := ⟨RX4, "go", "(I)V"⟩
def RX5 : String := "HourClock$Text"
def TX5 : u_T := fun k => match k with
  | 0 => ("HourClock$Text", "bytes", "[I", true)
  | 1 => ("HourClock$Text", "length", "I", false)
  | 2 => ("HourClock$Text", "at", "I", false)
  | _ => ("HourClock$Text", "error", "I", false)
def tyX5 : Nat → FieldType := fun k => match k with
  | 0 => .array .int
  | 1 => .int
  | 2 => .int
  | _ => .int
abbrev wsX50 : List Cond := u_ws RX5 TX5 4
theorem nmX5 : ∀ a, a < 4 → ∀ b, b < 4 → a ≠ b → (TX5 a).2.1 ≠ (TX5 b).2.1 := by decide +kernel
theorem tyX5_ok : ∀ k, k < 4 → parseFieldDescriptor (TX5 k).2.2.1 = some (tyX5 k) := by decide +kernel
abbrev cX5_init : ByteArray := prog_7_method_1_code
def yX5_init : MethodName := ⟨RX5, "<init>", "()V"⟩
abbrev cX5_put : ByteArray := prog_7_method_2_code
def yX5_put : MethodName := ⟨RX5, "put", "(I)V"⟩
abbrev cX5_readInto : ByteArray := prog_7_method_3_code
def yX5_readInto : MethodName := ⟨RX5, "readInto", "(LHourClock$Hour;)I"⟩
abbrev cX5_readItem : ByteArray := prog_7_method_4_code
def yX5_readItem : MethodName := ⟨RX5, "readItem", "(LHourClock$Hour;)V"⟩
abbrev cX5_readElement : ByteArray := prog_7_method_5_code
def yX5_readElement : MethodName := ⟨RX5, "readElement", "(LHourClock$Elements;)V"⟩
abbrev cX5_readFiller : ByteArray := prog_7_method_6_code
def yX5_readFiller : MethodName := ⟨RX5, "readFiller", "(LHourClock$Fillers;)V"⟩
abbrev cX5_readNumber : ByteArray := prog_7_method_7_code
def yX5_readNumber : MethodName := ⟨RX5, "readNumber", "(III)I"⟩
abbrev cX5_takeSemicolon : ByteArray := prog_7_method_8_code
def yX5_takeSemicolon : MethodName := ⟨RX5, "takeSemicolon", "()Z"⟩
abbrev cX5_take : ByteArray := prog_7_method_9_code
def yX5_take : MethodName := ⟨RX5, "take", "(C)Z"⟩
abbrev cX5_fail : ByteArray := prog_7_method_10_code
def yX5_fail : MethodName := ⟨RX5, "fail", "(I)V"⟩
abbrev cX5_here : ByteArray := prog_7_method_11_code
def yX5_here : MethodName := ⟨RX5, "here", "()I"⟩
abbrev cX5_isDigit : ByteArray := prog_7_method_12_code
def yX5_isDigit : MethodName := ⟨RX5, "isDigit", "(I)Z"⟩
def RX6 : String := "HourClock"
def TX6 : u_T := fun k => match k with
  | 0 => ("HourClock", "now", "LHourClock$Hour;", true)
  | 1 => ("HourClock", "scratch", "LHourClock$Hour;", true)
  | 2 => ("HourClock", "saved", "[LHourClock$Hour;", true)
  | 3 => ("HourClock", "savedCount", "I", false)
  | _ => ("HourClock", "text", "LHourClock$Text;", true)
def tyX6 : Nat → FieldType := fun k => match k with
  | 0 => .object "HourClock$Hour"
  | 1 => .object "HourClock$Hour"
  | 2 => .array (.object "HourClock$Hour")
  | 3 => .int
  | _ => .object "HourClock$Text"
abbrev wsX60 : List Cond := u_ws RX6 TX6 5
theorem nmX6 : ∀ a, a < 5 → ∀ b, b < 5 → a ≠ b → (TX6 a).2.1 ≠ (TX6 b).2.1 := by decide +kernel
theorem tyX6_ok : ∀ k, k < 5 → parseFieldDescriptor (TX6 k).2.2.1 = some (tyX6 k) := by decide +kernel
abbrev cX6_init : ByteArray := prog_1_method_1_code
def yX6_init : MethodName := ⟨RX6, "<init>", "()V"⟩
abbrev cX6_addElement : ByteArray := prog_1_method_2_code
def yX6_addElement : MethodName := ⟨RX6, "addElement", "(III)I"⟩
abbrev cX6_addFiller : ByteArray := prog_1_method_3_code
def yX6_addFiller : MethodName := ⟨RX6, "addFiller", "(I)I"⟩
abbrev cX6_stretch : ByteArray := prog_1_method_4_code
def yX6_stretch : MethodName := ⟨RX6, "stretch", "(II)I"⟩
abbrev cX6_drop : ByteArray := prog_1_method_5_code
def yX6_drop : MethodName := ⟨RX6, "drop", "(I)I"⟩
abbrev cX6_pass : ByteArray := prog_1_method_6_code
def yX6_pass : MethodName := ⟨RX6, "pass", "(I)I"⟩
abbrev cX6_finish : ByteArray := prog_1_method_7_code
def yX6_finish : MethodName := ⟨RX6, "finish", "()I"⟩
abbrev cX6_again : ByteArray := prog_1_method_8_code
def yX6_again : MethodName := ⟨RX6, "again", "()I"⟩
abbrev cX6_element : ByteArray := prog_1_method_9_code
def yX6_element : MethodName := ⟨RX6, "element", "(II)I"⟩
abbrev cX6_filler : ByteArray := prog_1_method_10_code
def yX6_filler : MethodName := ⟨RX6, "filler", "(II)I"⟩
abbrev cX6_value : ByteArray := prog_1_method_11_code
def yX6_value : MethodName := ⟨RX6, "value", "(I)I"⟩
abbrev cX6_entry : ByteArray := prog_1_method_12_code
def yX6_entry : MethodName := ⟨RX6, "entry", "(II)I"⟩
abbrev cX6_backTime : ByteArray := prog_1_method_13_code
def yX6_backTime : MethodName := ⟨RX6, "backTime", "(I)I"⟩
abbrev cX6_beginOf : ByteArray := prog_1_method_14_code
def yX6_beginOf : MethodName := ⟨RX6, "beginOf", "(I)I"⟩
abbrev cX6_endOfHour : ByteArray := prog_1_method_15_code
def yX6_endOfHour : MethodName := ⟨RX6, "endOfHour", "()I"⟩
abbrev cX6_drops : ByteArray := prog_1_method_16_code
def yX6_drops : MethodName := ⟨RX6, "drops", "()I"⟩
abbrev cX6_silence : ByteArray := prog_1_method_17_code
def yX6_silence : MethodName := ⟨RX6, "silence", "()I"⟩
abbrev cX6_choice : ByteArray := prog_1_method_18_code
def yX6_choice : MethodName := ⟨RX6, "choice", "(I)I"⟩
abbrev cX6_nextFull : ByteArray := prog_1_method_19_code
def yX6_nextFull : MethodName := ⟨RX6, "nextFull", "(I)I"⟩
abbrev cX6_bestDrop : ByteArray := prog_1_method_20_code
def yX6_bestDrop : MethodName := ⟨RX6, "bestDrop", "()I"⟩
abbrev cX6_sounding : ByteArray := prog_1_method_21_code
def yX6_sounding : MethodName := ⟨RX6, "sounding", "()D"⟩
abbrev cX6_append : ByteArray := prog_1_method_22_code
def yX6_append : MethodName := ⟨RX6, "append", "(I)I"⟩
abbrev cX6_clearText : ByteArray := prog_1_method_23_code
def yX6_clearText : MethodName := ⟨RX6, "clearText", "()I"⟩
abbrev cX6_parse : ByteArray := prog_1_method_24_code
def yX6_parse : MethodName := ⟨RX6, "parse", "()I"⟩
abbrev cX6_undo : ByteArray := prog_1_method_25_code
def yX6_undo : MethodName := ⟨RX6, "undo", "()I"⟩
abbrev cX6_digest : ByteArray := prog_1_method_26_code
def yX6_digest : MethodName := ⟨RX6, "digest", "()J"⟩
abbrev cX6_save : ByteArray := prog_1_method_27_code
def yX6_save : MethodName := ⟨RX6, "save", "()V"⟩
abbrev cX6_forgetOldest : ByteArray := prog_1_method_28_code
def yX6_forgetOldest : MethodName := ⟨RX6, "forgetOldest", "()V"⟩
abbrev cX6_foresee : ByteArray := prog_1_method_29_code
def yX6_foresee : MethodName := ⟨RX6, "foresee", "(I)LHourClock$Hour;"⟩
def RX7 : String := "HourClockModel"
def TX7 : u_T := fun k => match k with
  | 0 => ("HourClockModel", "s", "[I", true)
  | 1 => ("HourClockModel", "past", "[I", true)
  | 2 => ("HourClockModel", "aside", "[I", true)
  | 3 => ("HourClockModel", "then", "[I", true)
  | 4 => ("HourClockModel", "pasts", "I", false)
  | 5 => ("HourClockModel", "text", "[I", true)
  | 6 => ("HourClockModel", "typed", "I", false)
  | 7 => ("HourClockModel", "thrown", "I", false)
  | 8 => ("HourClockModel", "spot", "I", false)
  | 9 => ("HourClockModel", "number", "I", false)
  | _ => ("HourClockModel", "h", "J", false)
def tyX7 : Nat → FieldType := fun k => match k with
  | 0 => .array .int
  | 1 => .array .int
  | 2 => .array .int
  | 3 => .array .int
  | 4 => .int
  | 5 => .array .int
  | 6 => .int
  | 7 => .int
  | 8 => .int
  | 9 => .int
  | _ => .long
abbrev wsX70 : List Cond := u_ws RX7 TX7 11
theorem nmX7 : ∀ a, a < 11 → ∀ b, b < 11 → a ≠ b → (TX7 a).2.1 ≠ (TX7 b).2.1 := by decide +kernel
theorem tyX7_ok : ∀ k, k < 11 → parseFieldDescriptor (TX7 k).2.2.1 = some (tyX7 k) := by decide +kernel
abbrev cX7_init : ByteArray := prog_9_method_1_code
def yX7_init : MethodName := ⟨RX7, "<init>", "()V"⟩
abbrev cX7_thrown : ByteArray := prog_9_method_2_code
def yX7_thrown : MethodName := ⟨RX7, "thrown", "()I"⟩
abbrev cX7_in : ByteArray := prog_9_method_3_code
def yX7_in : MethodName := ⟨RX7, "in", "(III)Z"⟩
abbrev cX7_fails : ByteArray := prog_9_method_4_code
def yX7_fails : MethodName := ⟨RX7, "fails", "(I)I"⟩
abbrev cX7_tells : ByteArray := prog_9_method_5_code
def yX7_tells : MethodName := ⟨RX7, "tells", "(I)I"⟩
abbrev cX7_copies : ByteArray := prog_9_method_6_code
def yX7_copies : MethodName := ⟨RX7, "copies", "([I[I)V"⟩
abbrev cX7_save : ByteArray := prog_9_method_7_code
def yX7_save : MethodName := ⟨RX7, "save", "()V"⟩
abbrev cX7_isElement : ByteArray := prog_9_method_8_code
def yX7_isElement : MethodName := ⟨RX7, "isElement", "(I)Z"⟩
abbrev cX7_isFiller : ByteArray := prog_9_method_9_code
def yX7_isFiller : MethodName := ⟨RX7, "isFiller", "(I)Z"⟩
abbrev cX7_of : ByteArray := prog_9_method_10_code
def yX7_of : MethodName := ⟨RX7, "of", "(II)I"⟩
abbrev cX7_ofFiller : ByteArray := prog_9_method_11_code
def yX7_ofFiller : MethodName := ⟨RX7, "ofFiller", "(II)I"⟩
abbrev cX7_waits : ByteArray := prog_9_method_12_code
def yX7_waits : MethodName := ⟨RX7, "waits", "(I)Z"⟩
abbrev cX7_isFixed : ByteArray := prog_9_method_13_code
def yX7_isFixed : MethodName := ⟨RX7, "isFixed", "(I)Z"⟩
abbrev cX7_nextFixed : ByteArray := prog_9_method_14_code
def yX7_nextFixed : MethodName := ⟨RX7, "nextFixed", "(I)I"⟩
abbrev cX7_timeAt : ByteArray := prog_9_method_15_code
def yX7_timeAt : MethodName := ⟨RX7, "timeAt", "(I)I"⟩
abbrev cX7_goal : ByteArray := prog_9_method_16_code
def yX7_goal : MethodName := ⟨RX7, "goal", "()I"⟩
abbrev cX7_isInSection : ByteArray := prog_9_method_17_code
def yX7_isInSection : MethodName := ⟨RX7, "isInSection", "(I)Z"⟩
abbrev cX7_sectionLength : ByteArray := prog_9_method_18_code
def yX7_sectionLength : MethodName := ⟨RX7, "sectionLength", "(I)I"⟩
abbrev cX7_lowest : ByteArray := prog_9_method_19_code
def yX7_lowest : MethodName := ⟨RX7, "lowest", "(I)I"⟩
abbrev cX7_firstWaiting : ByteArray := prog_9_method_20_code
def yX7_firstWaiting : MethodName := ⟨RX7, "firstWaiting", "(I)I"⟩
abbrev cX7_logs : ByteArray := prog_9_method_21_code
def yX7_logs : MethodName := ⟨RX7, "logs", "(II)V"⟩
abbrev cX7_lets : ByteArray := prog_9_method_22_code
def yX7_lets : MethodName := ⟨RX7, "lets", "(I)V"⟩
abbrev cX7_goesOnAir : ByteArray := prog_9_method_23_code
def yX7_goesOnAir : MethodName := ⟨RX7, "goesOnAir", "(III)V"⟩
abbrev cX7_beginsElement : ByteArray := prog_9_method_24_code
def yX7_beginsElement : MethodName := ⟨RX7, "beginsElement", "(I)V"⟩
abbrev cX7_beginsFiller : ByteArray := prog_9_method_25_code
def yX7_beginsFiller : MethodName := ⟨RX7, "beginsFiller", "(I)V"⟩
abbrev cX7_ones : ByteArray := prog_9_method_26_code
def yX7_ones : MethodName := ⟨RX7, "ones", "(I)I"⟩
abbrev cX7_waitingFillers : ByteArray := prog_9_method_27_code
def yX7_waitingFillers : MethodName := ⟨RX7, "waitingFillers", "()I"⟩
abbrev cX7_lengthOf : ByteArray := prog_9_method_28_code
def yX7_lengthOf : MethodName := ⟨RX7, "lengthOf", "(I)I"⟩
abbrev cX7_chosen : ByteArray := prog_9_method_29_code
def yX7_chosen : MethodName := ⟨RX7, "chosen", "(I)I"⟩
abbrev cX7_lowestOf : ByteArray := prog_9_method_30_code
def yX7_lowestOf : MethodName := ⟨RX7, "lowestOf", "(I)I"⟩
abbrev cX7_finds : ByteArray := prog_9_method_31_code
def yX7_finds : MethodName := ⟨RX7, "finds", "()V"⟩
abbrev cX7_endsOnAir : ByteArray := prog_9_method_32_code
def yX7_endsOnAir : MethodName := ⟨RX7, "endsOnAir", "()V"⟩
abbrev cX7_goesOn : ByteArray := prog_9_method_33_code
def yX7_goesOn : MethodName := ⟨RX7, "goesOn", "(I)I"⟩
abbrev cX7_foresees : ByteArray := prog_9_method_34_code
def yX7_foresees : MethodName := ⟨RX7, "foresees", "()V"⟩
abbrev cX7_putElement : ByteArray := prog_9_method_35_code
def yX7_putElement : MethodName := ⟨RX7, "putElement", "(III)V"⟩
abbrev cX7_putFiller : ByteArray := prog_9_method_36_code
def yX7_putFiller : MethodName := ⟨RX7, "putFiller", "(I)V"⟩
abbrev cX7_addElement : ByteArray := prog_9_method_37_code
def yX7_addElement : MethodName := ⟨RX7, "addElement", "(III)I"⟩
abbrev cX7_addFiller : ByteArray := prog_9_method_38_code
def yX7_addFiller : MethodName := ⟨RX7, "addFiller", "(I)I"⟩
abbrev cX7_canBe : ByteArray := prog_9_method_39_code
def yX7_canBe : MethodName := ⟨RX7, "canBe", "(II)Z"⟩
abbrev cX7_stretch : ByteArray := prog_9_method_40_code
def yX7_stretch : MethodName := ⟨RX7, "stretch", "(II)I"⟩
abbrev cX7_inStatus : ByteArray := prog_9_method_41_code
def yX7_inStatus : MethodName := ⟨RX7, "inStatus", "(I)I"⟩
abbrev cX7_drop : ByteArray := prog_9_method_42_code
def yX7_drop : MethodName := ⟨RX7, "drop", "(I)I"⟩
abbrev cX7_pass : ByteArray := prog_9_method_43_code
def yX7_pass : MethodName := ⟨RX7, "pass", "(I)I"⟩
abbrev cX7_finish : ByteArray := prog_9_method_44_code
def yX7_finish : MethodName := ⟨RX7, "finish", "()I"⟩
abbrev cX7_begins : ByteArray := prog_9_method_45_code
def yX7_begins : MethodName := ⟨RX7, "begins", "()V"⟩
abbrev cX7_again : ByteArray := prog_9_method_46_code
def yX7_again : MethodName := ⟨RX7, "again", "()I"⟩
abbrev cX7_latenessOf : ByteArray := prog_9_method_47_code
def yX7_latenessOf : MethodName := ⟨RX7, "latenessOf", "(I)I"⟩
abbrev cX7_elementOf : ByteArray := prog_9_method_48_code
def yX7_elementOf : MethodName := ⟨RX7, "elementOf", "(II)I"⟩
abbrev cX7_element : ByteArray := prog_9_method_49_code
def yX7_element : MethodName := ⟨RX7, "element", "(II)I"⟩
abbrev cX7_filler : ByteArray := prog_9_method_50_code
def yX7_filler : MethodName := ⟨RX7, "filler", "(II)I"⟩
abbrev cX7_greatest : ByteArray := prog_9_method_51_code
def yX7_greatest : MethodName := ⟨RX7, "greatest", "()I"⟩
abbrev cX7_valueOf : ByteArray := prog_9_method_52_code
def yX7_valueOf : MethodName := ⟨RX7, "valueOf", "(I)I"⟩
abbrev cX7_value : ByteArray := prog_9_method_53_code
def yX7_value : MethodName := ⟨RX7, "value", "(I)I"⟩
abbrev cX7_entry : ByteArray := prog_9_method_54_code
def yX7_entry : MethodName := ⟨RX7, "entry", "(II)I"⟩
abbrev cX7_backOf : ByteArray := prog_9_method_55_code
def yX7_backOf : MethodName := ⟨RX7, "backOf", "(I)I"⟩
abbrev cX7_backTime : ByteArray := prog_9_method_56_code
def yX7_backTime : MethodName := ⟨RX7, "backTime", "(I)I"⟩
abbrev cX7_beginOf : ByteArray := prog_9_method_57_code
def yX7_beginOf : MethodName := ⟨RX7, "beginOf", "(I)I"⟩
abbrev cX7_endOfHour : ByteArray := prog_9_method_58_code
def yX7_endOfHour : MethodName := ⟨RX7, "endOfHour", "()I"⟩
abbrev cX7_drops : ByteArray := prog_9_method_59_code
def yX7_drops : MethodName := ⟨RX7, "drops", "()I"⟩
abbrev cX7_silence : ByteArray := prog_9_method_60_code
def yX7_silence : MethodName := ⟨RX7, "silence", "()I"⟩
abbrev cX7_choice : ByteArray := prog_9_method_61_code
def yX7_choice : MethodName := ⟨RX7, "choice", "(I)I"⟩
abbrev cX7_fullAbove : ByteArray := prog_9_method_62_code
def yX7_fullAbove : MethodName := ⟨RX7, "fullAbove", "(I)I"⟩
abbrev cX7_nextFull : ByteArray := prog_9_method_63_code
def yX7_nextFull : MethodName := ⟨RX7, "nextFull", "(I)I"⟩
abbrev cX7_doneThen : ByteArray := prog_9_method_64_code
def yX7_doneThen : MethodName := ⟨RX7, "doneThen", "()I"⟩
abbrev cX7_bestDrop : ByteArray := prog_9_method_65_code
def yX7_bestDrop : MethodName := ⟨RX7, "bestDrop", "()I"⟩
abbrev cX7_sounding : ByteArray := prog_9_method_66_code
def yX7_sounding : MethodName := ⟨RX7, "sounding", "()D"⟩
abbrev cX7_append : ByteArray := prog_9_method_67_code
def yX7_append : MethodName := ⟨RX7, "append", "(I)I"⟩
abbrev cX7_clearText : ByteArray := prog_9_method_68_code
def yX7_clearText : MethodName := ⟨RX7, "clearText", "()I"⟩
abbrev cX7_isAt : ByteArray := prog_9_method_69_code
def yX7_isAt : MethodName := ⟨RX7, "isAt", "(II)Z"⟩
abbrev cX7_takes : ByteArray := prog_9_method_70_code
def yX7_takes : MethodName := ⟨RX7, "takes", "(I)Z"⟩
abbrev cX7_readsNumber : ByteArray := prog_9_method_71_code
def yX7_readsNumber : MethodName := ⟨RX7, "readsNumber", "(III)Z"⟩
abbrev cX7_readsElement : ByteArray := prog_9_method_72_code
def yX7_readsElement : MethodName := ⟨RX7, "readsElement", "()Z"⟩
abbrev cX7_readsFiller : ByteArray := prog_9_method_73_code
def yX7_readsFiller : MethodName := ⟨RX7, "readsFiller", "()Z"⟩
abbrev cX7_reads : ByteArray := prog_9_method_74_code
def yX7_reads : MethodName := ⟨RX7, "reads", "()Z"⟩
abbrev cX7_parse : ByteArray := prog_9_method_75_code
def yX7_parse : MethodName := ⟨RX7, "parse", "()I"⟩
abbrev cX7_undo : ByteArray := prog_9_method_76_code
def yX7_undo : MethodName := ⟨RX7, "undo", "()I"⟩
abbrev cX7_mix : ByteArray := prog_9_method_77_code
def yX7_mix : MethodName := ⟨RX7, "mix", "(I)V"⟩
abbrev cX7_digest : ByteArray := prog_9_method_78_code
def yX7_digest : MethodName := ⟨RX7, "digest", "()J"⟩
def RJ6 : String := "java/lang/Integer"
def TJ6 : u_T := fun k => match k with
  | _ => ("", "", "", false)
def tyJ6 : Nat → FieldType := fun k => match k with
  | _ => .int
abbrev wsJ60 : List Cond := u_ws RJ6 TJ6 0
theorem nmJ6 : ∀ a, a < 0 → ∀ b, b < 0 → a ≠ b → (TJ6 a).2.1 ≠ (TJ6 b).2.1 := by decide +kernel
theorem tyJ6_ok : ∀ k, k < 0 → parseFieldDescriptor (TJ6 k).2.2.1 = some (tyJ6 k) := by decide +kernel
abbrev cJ6_numberOfTrailingZeros_0f7a4 : ByteArray := prog_14_method_48_code
def yJ6_numberOfTrailingZeros_0f7a4 : MethodName := ⟨RJ6, "numberOfTrailingZeros", "(I)I"⟩
def RJ9 : String := "java/lang/Math"
def TJ9 : u_T := fun k => match k with
  | _ => ("", "", "", false)
def tyJ9 : Nat → FieldType := fun k => match k with
  | _ => .int
abbrev wsJ90 : List Cond := u_ws RJ9 TJ9 0
theorem nmJ9 : ∀ a, a < 0 → ∀ b, b < 0 → a ≠ b → (TJ9 a).2.1 ≠ (TJ9 b).2.1 := by decide +kernel
theorem tyJ9_ok : ∀ k, k < 0 → parseFieldDescriptor (TJ9 k).2.2.1 = some (tyJ9 k) := by decide +kernel
abbrev cJ9_max_7cf53 : ByteArray := prog_15_method_65_code
def yJ9_max_7cf53 : MethodName := ⟨RJ9, "max", "(II)I"⟩
abbrev cJ9_min_7cf53 : ByteArray := prog_15_method_69_code
def yJ9_min_7cf53 : MethodName := ⟨RJ9, "min", "(II)I"⟩
def RJ0 : String := "java/lang/String"
def TJ0 : u_T := fun k => match k with
  | _ => ("", "", "", false)
def tyJ0 : Nat → FieldType := fun k => match k with
  | _ => .int
abbrev wsJ00 : List Cond := u_ws RJ0 TJ0 0
theorem nmJ0 : ∀ a, a < 0 → ∀ b, b < 0 → a ≠ b → (TJ0 a).2.1 ≠ (TJ0 b).2.1 := by decide +kernel
theorem tyJ0_ok : ∀ k, k < 0 → parseFieldDescriptor (TJ0 k).2.2.1 = some (tyJ0 k) := by decide +kernel
def RJ10 : String := "java/lang/System"
def TJ10 : u_T := fun k => match k with
  | _ => ("", "", "", false)
def tyJ10 : Nat → FieldType := fun k => match k with
  | _ => .int
abbrev wsJ100 : List Cond := u_ws RJ10 TJ10 0
theorem nmJ10 : ∀ a, a < 0 → ∀ b, b < 0 → a ≠ b → (TJ10 a).2.1 ≠ (TJ10 b).2.1 := by decide +kernel
theorem tyJ10_ok : ∀ k, k < 0 → parseFieldDescriptor (TJ10 k).2.2.1 = some (tyJ10 k) := by decide +kernel
def RL : String := "HourClockLaw"
abbrev cL_addElement : ByteArray := method_3_code
def yL_addElement : MethodName := ⟨RL, "addElement", "(LHourClock;III[J)I"⟩
abbrev cL_addFiller : ByteArray := method_4_code
def yL_addFiller : MethodName := ⟨RL, "addFiller", "(LHourClock;I[J)I"⟩
abbrev cL_stretch : ByteArray := method_5_code
def yL_stretch : MethodName := ⟨RL, "stretch", "(LHourClock;II[J)I"⟩
abbrev cL_drop : ByteArray := method_6_code
def yL_drop : MethodName := ⟨RL, "drop", "(LHourClock;I[J)I"⟩
abbrev cL_pass : ByteArray := method_7_code
def yL_pass : MethodName := ⟨RL, "pass", "(LHourClock;I[J)I"⟩
abbrev cL_again : ByteArray := method_8_code
def yL_again : MethodName := ⟨RL, "again", "(LHourClock;[J)I"⟩
abbrev cL_element : ByteArray := method_9_code
def yL_element : MethodName := ⟨RL, "element", "(LHourClock;II[J)I"⟩
abbrev cL_filler : ByteArray := method_10_code
def yL_filler : MethodName := ⟨RL, "filler", "(LHourClock;II[J)I"⟩
abbrev cL_value : ByteArray := method_11_code
def yL_value : MethodName := ⟨RL, "value", "(LHourClock;I[J)I"⟩
abbrev cL_entry : ByteArray := method_12_code
def yL_entry : MethodName := ⟨RL, "entry", "(LHourClock;II[J)I"⟩
abbrev cL_backTime : ByteArray := method_13_code
def yL_backTime : MethodName := ⟨RL, "backTime", "(LHourClock;I[J)I"⟩
abbrev cL_beginOf : ByteArray := method_14_code
def yL_beginOf : MethodName := ⟨RL, "beginOf", "(LHourClock;I[J)I"⟩
abbrev cL_choice : ByteArray := method_15_code
def yL_choice : MethodName := ⟨RL, "choice", "(LHourClock;I[J)I"⟩
abbrev cL_nextFull : ByteArray := method_16_code
def yL_nextFull : MethodName := ⟨RL, "nextFull", "(LHourClock;I[J)I"⟩
abbrev cL_append : ByteArray := method_17_code
def yL_append : MethodName := ⟨RL, "append", "(LHourClock;I[J)I"⟩
abbrev cL_undo : ByteArray := method_18_code
def yL_undo : MethodName := ⟨RL, "undo", "(LHourClock;[J)I"⟩
abbrev cL_law : ByteArray := code
def yL_law : MethodName := ⟨RL, "law", "([I)Z"⟩
abbrev vwCl : List vw_C := [(RX0, TX0, 6), (RX1, TX1, 5), (RX2, TX2, 11), (RX3, TX3, 4), (RX4, TX4, 6), (RX5, TX5, 4), (RX6, TX6, 5), (RX7, TX7, 11)]
end
section
/-! The core: a world's cells put back behind a call, contracts as pictures, the call rows over them. -/
abbrev FF := Nat → Int32
/-- what the store knows of classes: numbers of classes and slots, the classes of int[], Hour[] and long[] -/
abbrev zG : Type := va_G × ClassId × ClassId × ClassId
abbrev zT (g : zG) : List (ClassId × FieldType) := [(g.2.1, .int), (g.2.2.1, .object "HourClock$Hour"), (g.2.2.2, .long)]
/-- the answer of a boolean -/
def zb (b : Bool) : Int32 := if b then 1 else 0
theorem zb_t : zb true = 1 := rfl
theorem zb_f : zb false = 0 := rfl
theorem zb_nar (b : Bool) : narrow .boolean (.int (zb b)) = .int (zb b) := by cases b <;> rfl
theorem zb_fit (b : Bool) : fits .boolean (.int (zb b)) = true := by cases b <;> rfl
/-- an index is in its row -/
def zin (i : Int32) (n : Nat) : Bool := decide (¬ (i < 0 ∨ n ≤ i.toNatClampNeg))
theorem zin_vp {i : Int32} {n : Nat} (h : zin i n = true) : vp_in i n := (of_decide_eq_true (p := ¬ (i < 0 ∨ n ≤ i.toNatClampNeg)) h : ¬ (i < 0 ∨ n ≤ i.toNatClampNeg))
theorem og {α : Type} {b : Bool} {x : Option α} {r : α} (h : (if b = true then x else none) = some r) : b = true ∧ x = some r := by
  cases b with
  | true => exact ⟨rfl, h⟩
  | false => exact absurd h (by simp)
theorem ob {α β : Type} {x : Option α} {k : α → Option β} {r : β} (h : x.bind k = some r) : ∃ u, x = some u ∧ k u = some r := by
  cases x with
  | none => exact absurd h (by simp)
  | some u => exact ⟨u, rfl, h⟩
theorem oi {α : Type} {c : Prop} [Decidable c] {x y : Option α} {r : α} (h : (if c then x else y) = some r) (hc : c) : x = some r := by rw [if_pos hc] at h; exact h
theorem oe {α : Type} {c : Prop} [Decidable c] {x y : Option α} {r : α} (h : (if c then x else y) = some r) (hc : ¬ c) : y = some r := by rw [if_neg hc] at h; exact h
/-- cells put back at their places -/
def zput : va_W → List Nat → va_W → va_W
  | ws, i :: is, q :: qs => zput (ws.set i q) is qs
  | ws, _, _ => ws
theorem zput_get : ∀ (is : List Nat) (qs ws : va_W), is.length = qs.length → ∀ (k : Nat) (q : Nat × va_E), (zput ws is qs)[k]? = some q → (∃ j : Nat, is[j]? = some k ∧ qs[j]? = some q) ∨ (k ∉ is ∧ ws[k]? = some q) := by
  intro is
  induction is with
  | nil => intro qs ws _ k q h; exact Or.inr ⟨List.not_mem_nil, by simpa [zput] using h⟩
  | cons i is ih =>
    intro qs ws hl k q h
    cases qs with
    | nil => simp at hl
    | cons q0 qs =>
      have hl' : is.length = qs.length := by simpa using hl
      rcases ih qs (ws.set i q0) hl' k q h with ⟨j, h1, h2⟩ | ⟨h1, h2⟩
      · exact Or.inl ⟨j + 1, by simpa using h1, by simpa using h2⟩
      · by_cases hki : k = i
        · subst hki
          have hlt : k < ws.length := by
            have := (List.getElem?_eq_some_iff.mp h2).1
            simpa using this
          rw [List.getElem?_set_self hlt] at h2
          exact Or.inl ⟨0, by simp, by simpa using h2⟩
        · rw [List.getElem?_set_ne (Ne.symm hki)] at h2
          exact Or.inr ⟨fun hm => (List.mem_cons.mp hm).elim hki h1, h2⟩
theorem zput_ok {A0 : Nat → Prop} {D : va_G} {cl : List vw_C} {ws wc w1 : va_W} {H H1 : Heap} (hP : va_P D cl ws H) (hD : va_D A0 ws) (isC : List Nat) (hC : isC.map (fun i => ws[i]?) = wc.map some) (hs : w1.map Prod.fst = wc.map Prod.fst)
    (hk : ∀ q : Nat, q < H.size → ¬ va_A wc H.size q → H1[q]? = H[q]?) (hP1 : va_P D cl w1 H1) : va_P D cl (zput ws isC w1) H1 ∧ va_D A0 (zput ws isC w1) := by
  have hlen : isC.length = wc.length := by have := congrArg List.length hC; simpa using this
  have hlen1 : w1.length = wc.length := by have := congrArg List.length hs; simpa using this
  have hl : isC.length = w1.length := hlen.trans hlen1.symm
  have at' : ∀ (j : Nat) (q : Nat × va_E), wc[j]? = some q → ∃ i, isC[j]? = some i ∧ ws[i]? = some q := by
    intro j q hq
    have h1 : (isC.map (fun i => ws[i]?))[j]? = some (some q) := by rw [hC, List.getElem?_map, hq]; rfl
    rw [List.getElem?_map] at h1
    cases hi : isC[j]? with
    | none => rw [hi] at h1; cases h1
    | some i => rw [hi] at h1; exact ⟨i, rfl, Option.some.inj h1⟩
  have adr : ∀ (k : Nat) (q : Nat × va_E), (zput ws isC w1)[k]? = some q → ∃ q0, ws[k]? = some q0 ∧ q0.1 = q.1 := by
    intro k q hq
    rcases zput_get isC w1 ws hl k q hq with ⟨j, h1, h2⟩ | ⟨-, h2⟩
    · have h3 : (w1.map Prod.fst)[j]? = some q.1 := by rw [List.getElem?_map, h2]; rfl
      rw [hs, List.getElem?_map] at h3
      cases hw : wc[j]? with
      | none => rw [hw] at h3; cases h3
      | some q0 =>
        rw [hw] at h3
        obtain ⟨i, g1, g2⟩ := at' j q0 hw
        rw [h1] at g1
        cases g1
        exact ⟨q0, g2, Option.some.inj h3⟩
    · exact ⟨q, h2, rfl⟩
  refine ⟨fun k q hq => ?_, fun i j p q hp hq hpq => ?_, fun k q hq => ?_⟩
  · rcases zput_get isC w1 ws hl k q hq with ⟨j, h1, h2⟩ | ⟨h1, h2⟩
    · exact hP1 j q h2
    · have hlt := (hP k q h2).lt
      refine (hP k q h2).kept (hk q.1 hlt (fun h => ?_))
      rcases h with ⟨j, e, h⟩ | h
      · obtain ⟨i, g1, g2⟩ := at' j (q.1, e) h
        have := hD.1 i k (q.1, e) q g2 h2 rfl
        subst this
        exact h1 (List.mem_of_getElem? g1)
      · omega
  · obtain ⟨p0, h1, h2⟩ := adr i p hp
    obtain ⟨q0, h3, h4⟩ := adr j q hq
    exact hD.1 i j p0 q0 h1 h3 (h2.trans (hpq.trans h4.symm))
  · obtain ⟨q0, h1, h2⟩ := adr k q hq
    rw [← h2]
    exact hD.2 k q0 h1
theorem zsub {D : va_G} {cl : List vw_C} {ws wc : va_W} {H : Heap} (hP : va_P D cl ws H) (isC : List Nat) (hC : isC.map (fun i => ws[i]?) = wc.map some) : va_P D cl wc H := by
  intro j q hq
  have h1 : (isC.map (fun i => ws[i]?))[j]? = some (some q) := by rw [hC, List.getElem?_map, hq]; rfl
  rw [List.getElem?_map] at h1
  cases hi : isC[j]? with
  | none => rw [hi] at h1; cases h1
  | some i => rw [hi] at h1; exact hP i q (Option.some.inj h1)
/-- the links between nest mates: fields (own class, place, class, name, descriptor, host), methods (own class, place, name, host) -/
abbrev zNFt : Type := String × Nat × String × String × String × String
abbrev zNMt : Type := String × Nat × MethodName × String
def zK (nf : List zNFt) (nm : List zNMt) (g : zG) (U : State) : Prop := va_K g.1 vwCl (zT g) U ∧ (∀ q ∈ nf, va_Nw (.fieldLinkNest q.1 q.2.1 q.2.2.1 q.2.2.2.1 q.2.2.2.2.1 q.2.2.2.2.2) U) ∧ (∀ q ∈ nm, va_Nw (.methodLinkNest q.1 q.2.1 q.2.2.1 q.2.2.2) U)
theorem zK.warm {nf : List zNFt} {nm : List zNMt} {g : zG} {s U : State} (hW : s.WarmedH U.vm) (h : zK nf nm g s) : zK nf nm g U := ⟨va_K.moved hW.alike h.1, fun q hq => va_Nw.warmF hW (h.2.1 q hq), fun q hq => va_Nw.warmM hW (h.2.2 q hq)⟩
theorem zK.call {nf : List zNFt} {nm : List zNMt} {g : zG} {U : State} (fr : JFrame) (mk : MethodId) (a : Array Value) (h : zK nf nm g U) : zK nf nm g (U.calling fr mk a) := ⟨va_K.moved (u := U) (U := U.calling fr mk a) (Vm.Alike.refl U.vm) h.1, fun q hq => va_Nw.same rfl (rfl : U.vm = (U.calling fr mk a).vm) (h.2.1 q hq), fun q hq => va_Nw.same rfl (rfl : U.vm = (U.calling fr mk a).vm) (h.2.2 q hq)⟩
section ZC
variable {nf : List zNFt} {nm : List zNMt}
def zPre (nf : List zNFt) (nm : List zNMt) (g : zG) (w : va_W) (sz : Nat) : State → Prop := fun U => U.heap.size = sz ∧ va_P g.1 vwCl w U.heap ∧ zK nf nm g U ∧ va_D (fun _ => True) w
def zEnd (g : zG) (A : Nat → Prop) (w1 : va_W) : State → Prop := fun t => va_P g.1 vwCl w1 t.heap ∧ va_D A w1
/-- contracts: over the world w the method answers r and leaves the world w1 -/
def zMi (nf : List zNFt) (nm : List zNMt) (l : Launch) (y : MethodName) (ws : List Cond) (rm : Room) (g : zG) (As : List Value) (w : va_W) (r : Int32) (w1 : va_W) : Prop := ∀ sz : Nat, Met l y ws rm (va_Pc As (zPre nf nm g w sz)) (va_Qi (fun (x : Int32) (_ : Unit) => x = r) (fun _ => zEnd g (va_A w sz) w1) (va_A w sz)) 0 0 (va_A w sz)
def zMl (nf : List zNFt) (nm : List zNMt) (l : Launch) (y : MethodName) (ws : List Cond) (rm : Room) (g : zG) (As : List Value) (w : va_W) (r : Int64) (w1 : va_W) : Prop := ∀ sz : Nat, Met l y ws rm (va_Pc As (zPre nf nm g w sz)) (va_Ql (fun (x : Int64) (_ : Unit) => x = r) (fun _ => zEnd g (va_A w sz) w1) (va_A w sz)) 0 0 (va_A w sz)
def zMv (nf : List zNFt) (nm : List zNMt) (l : Launch) (y : MethodName) (ws : List Cond) (rm : Room) (g : zG) (As : List Value) (w w1 : va_W) : Prop := ∀ sz : Nat, Met l y ws rm (va_Pc As (zPre nf nm g w sz)) (va_Qv (fun (_ : Unit) => True) (fun _ => zEnd g (va_A w sz) w1) (va_A w sz)) 0 0 (va_A w sz)
def zMr (nf : List zNFt) (nm : List zNMt) (l : Launch) (y : MethodName) (ws : List Cond) (rm : Room) (g : zG) (As : List Value) (w : va_W) (r : Nat) (w1 : va_W) : Prop := ∀ sz : Nat, Met l y ws rm (va_Pc As (zPre nf nm g w sz)) (va_Qr (fun (_ : Unit) => True) (fun _ ra t => ra = r ∧ zEnd g (va_A w sz) w1 t) (va_A w sz)) 0 0 (va_A w sz)
theorem zblind {g : zG} {As : List Value} {w : va_W} {sz : Nat} : FrameBlind (va_Pc As (zPre nf nm g w sz)) := fun a U fr mk q => by
  obtain ⟨q0, q1, qP, qK, qD⟩ := q
  exact ⟨q0, q1, qP, zK.call fr mk a qK, qD⟩
theorem zpre {A0 : Nat → Prop} {g : zG} {ws wc : va_W} {s : State} {H : Heap} {As : List Value} (hK : zK nf nm g s) (hP : va_P g.1 vwCl ws H) (hD : va_D A0 ws) (isC : List Nat) (hC : isC.map (fun i => ws[i]?) = wc.map some) (hn : va_nd isC = true) : ∀ U : State, U.heap = H → s.WarmedH U.vm → va_Pc As (zPre nf nm g wc H.size) As.toArray U := by
  intro U hU hW
  refine ⟨rfl, by rw [hU], by rw [hU]; exact zsub hP isC hC, hK.warm hW, ?_⟩
  exact (hD.sub isC hn hC).weaken (fun _ _ _ _ => trivial)
theorem zrecv {g : zG} {ws wc : va_W} {s : State} {H : Heap} (hK : zK nf nm g s) (hP : va_P g.1 vwCl ws H) (isC : List Nat) (hC : isC.map (fun i => ws[i]?) = wc.map some) {b ci : Nat} {fs : List Value} {q : vw_C} (hc : vwCl[ci]? = some q) (he : wc[0]? = some (b, .inr (ci, fs))) : ∃ cell : Cell, H[b]? = some cell ∧ cell.vm.isStatics = false ∧ s.vm.findClass q.1 = some cell.cls := va_recv hK.1 (zsub hP isC hC) hc he
variable {p : Program} {l : Launch} {e : Env} {R : Room} {s : State} {m : MethodId} {args : Array Value} {below : List Frame} {meth : Method} {c : Code} {H : Heap} {locs : List Loc} {cells slots : Nat} {Q : State → Prop}
variable {pc : Nat} {ls : Array Slot} {rest st0 : List Value} {a : Array Value} {A0 : Nat → Prop} {H0 : Heap} {g : zG} {ws wc w1 : va_W}
theorem zk_i {r : Int32} (hr : va_Run p l e R s m args below meth c H locs cells slots 0 0 (F0 m pc ls st0) rest (va_Qi (fun (x : Int32) (_ : Unit) => x = r) (fun _ => zEnd g (va_A wc H.size) w1) (va_A wc H.size) a) (va_A wc H.size)) (hP : va_P g.1 vwCl ws H) (hD : va_D A0 ws) (hS : va_S A0 H0 H locs) (hA : ∀ q, H0.size ≤ q → A0 q) (isC : List Nat) (hC : isC.map (fun i => ws[i]?) = wc.map some) (hs : w1.map Prod.fst = wc.map Prod.fst)
    (kk : ∀ (H1 : Heap) (locs1 : List Loc), va_P g.1 vwCl (zput ws isC w1) H1 → va_D A0 (zput ws isC w1) → va_S A0 H0 H1 locs1 → W p l e R s m args below meth c H1 locs1 cells slots Q (F0 m (pc + 3) ls (.int r :: rest))) : W p l e R s m args below meth c H locs cells slots Q (F0 m pc ls st0) := by
  refine va_calli hr hS (fun q _ h => va_free hD hS hA isC hC q h) (va_free hD hS hA isC hC) (fun x u t H1 locs1 ht hvm hp hB hz hk hS' => ?_)
  subst hp
  obtain ⟨hP1, hD1⟩ := hB
  rw [ht] at hP1
  obtain ⟨h1, h2⟩ := zput_ok hP hD isC hC hs hk hP1
  exact kk H1 locs1 h1 h2 hS'
theorem zk_l {r : Int64} (hr : va_Run p l e R s m args below meth c H locs cells slots 0 0 (F0 m pc ls st0) rest (va_Ql (fun (x : Int64) (_ : Unit) => x = r) (fun _ => zEnd g (va_A wc H.size) w1) (va_A wc H.size) a) (va_A wc H.size)) (hP : va_P g.1 vwCl ws H) (hD : va_D A0 ws) (hS : va_S A0 H0 H locs) (hA : ∀ q, H0.size ≤ q → A0 q) (isC : List Nat) (hC : isC.map (fun i => ws[i]?) = wc.map some) (hs : w1.map Prod.fst = wc.map Prod.fst)
    (kk : ∀ (H1 : Heap) (locs1 : List Loc), va_P g.1 vwCl (zput ws isC w1) H1 → va_D A0 (zput ws isC w1) → va_S A0 H0 H1 locs1 → W p l e R s m args below meth c H1 locs1 cells slots Q (F0 m (pc + 3) ls (.long r :: rest))) : W p l e R s m args below meth c H locs cells slots Q (F0 m pc ls st0) := by
  refine va_calll hr hS (fun q _ h => va_free hD hS hA isC hC q h) (va_free hD hS hA isC hC) (fun x u t H1 locs1 ht hvm hp hB hz hk hS' => ?_)
  subst hp
  obtain ⟨hP1, hD1⟩ := hB
  rw [ht] at hP1
  obtain ⟨h1, h2⟩ := zput_ok hP hD isC hC hs hk hP1
  exact kk H1 locs1 h1 h2 hS'
theorem zk_v (hr : va_Run p l e R s m args below meth c H locs cells slots 0 0 (F0 m pc ls st0) rest (va_Qv (fun (_ : Unit) => True) (fun _ => zEnd g (va_A wc H.size) w1) (va_A wc H.size) a) (va_A wc H.size)) (hP : va_P g.1 vwCl ws H) (hD : va_D A0 ws) (hS : va_S A0 H0 H locs) (hA : ∀ q, H0.size ≤ q → A0 q) (isC : List Nat) (hC : isC.map (fun i => ws[i]?) = wc.map some) (hs : w1.map Prod.fst = wc.map Prod.fst)
    (kk : ∀ (H1 : Heap) (locs1 : List Loc), va_P g.1 vwCl (zput ws isC w1) H1 → va_D A0 (zput ws isC w1) → va_S A0 H0 H1 locs1 → W p l e R s m args below meth c H1 locs1 cells slots Q (F0 m (pc + 3) ls rest)) : W p l e R s m args below meth c H locs cells slots Q (F0 m pc ls st0) := by
  refine va_callv hr hS (fun q _ h => va_free hD hS hA isC hC q h) (va_free hD hS hA isC hC) (fun u t H1 locs1 ht hvm hp hB hz hk hS' => ?_)
  obtain ⟨hP1, hD1⟩ := hB
  rw [ht] at hP1
  obtain ⟨h1, h2⟩ := zput_ok hP hD isC hC hs hk hP1
  exact kk H1 locs1 h1 h2 hS'
theorem zk_r {r : Nat} (hr : va_Run p l e R s m args below meth c H locs cells slots 0 0 (F0 m pc ls st0) rest (va_Qr (fun (_ : Unit) => True) (fun _ ra t => ra = r ∧ zEnd g (va_A wc H.size) w1 t) (va_A wc H.size) a) (va_A wc H.size)) (hP : va_P g.1 vwCl ws H) (hD : va_D A0 ws) (hS : va_S A0 H0 H locs) (hA : ∀ q, H0.size ≤ q → A0 q) (isC : List Nat) (hC : isC.map (fun i => ws[i]?) = wc.map some) (hs : w1.map Prod.fst = wc.map Prod.fst)
    (kk : ∀ (H1 : Heap) (locs1 : List Loc), va_P g.1 vwCl (zput ws isC w1) H1 → va_D A0 (zput ws isC w1) → va_S A0 H0 H1 locs1 → W p l e R s m args below meth c H1 locs1 cells slots Q (F0 m (pc + 3) ls (.ref r :: rest))) : W p l e R s m args below meth c H locs cells slots Q (F0 m pc ls st0) := by
  refine va_callr hr hS (fun q _ h => va_free hD hS hA isC hC q h) (va_free hD hS hA isC hC) (fun u ra t H1 locs1 ht hvm hp hB hz hk hS' => ?_)
  obtain ⟨he, hP1, hD1⟩ := hB
  subst he
  rw [ht] at hP1
  obtain ⟨h1, h2⟩ := zput_ok hP hD isC hC hs hk hP1
  exact kk H1 locs1 h1 h2 hS'
end ZC
end
section
/-! The words of the tables by their places. zW: the good ones of lw_tbl. -/
def zW : List Cond := lw_tbl.filter goodWord
theorem zW_mem {w : Cond} (h : w ∈ lw_tbl) (hg : goodWord w = true) : w ∈ zW := List.mem_filter.mpr ⟨h, hg⟩
theorem zW_tbl : ∀ w ∈ zW, w ∈ lw_tbl := fun _ h => (List.mem_filter.mp h).1
theorem zW_good : ∀ w ∈ zW, goodWord w = true := fun _ h => (List.mem_filter.mp h).2
theorem zt_1 {w : Cond} (h : w ∈ tables_1_1) : w ∈ lw_tbl := List.mem_append_right _ (List.mem_append_left _ h)
theorem zt_2 {w : Cond} (h : w ∈ tables_1_2) : w ∈ lw_tbl := List.mem_append_right _ (List.mem_append_right _ (List.mem_append_left _ h))
theorem zt_3 {w : Cond} (h : w ∈ tables_1_3) : w ∈ lw_tbl := List.mem_append_right _ (List.mem_append_right _ (List.mem_append_right _ (List.mem_append_left _ h)))
theorem zt_4 {w : Cond} (h : w ∈ tables_1_4) : w ∈ lw_tbl := List.mem_append_right _ (List.mem_append_right _ (List.mem_append_right _ (List.mem_append_right _ (List.mem_append_left _ h))))
theorem zt_5 {w : Cond} (h : w ∈ tables_1_5) : w ∈ lw_tbl := List.mem_append_right _ (List.mem_append_right _ (List.mem_append_right _ (List.mem_append_right _ (List.mem_append_right _ (h)))))
/-- the same word as it stands in the tables -/
theorem zm1_0 : (Cond.initialized "HourClockLaw") ∈ zW := zW_mem (zt_1 (List.mem_of_getElem? (i := 0) rfl)) rfl
theorem zm1_1 : (Cond.initialized "HourClock") ∈ zW := zW_mem (zt_1 (List.mem_of_getElem? (i := 1) rfl)) rfl
theorem zm1_2 : (Cond.initialized "HourClock$Hour") ∈ zW := zW_mem (zt_1 (List.mem_of_getElem? (i := 2) rfl)) rfl
theorem zm1_3 : (Cond.initialized "HourClock$Elements") ∈ zW := zW_mem (zt_1 (List.mem_of_getElem? (i := 3) rfl)) rfl
theorem zm1_4 : (Cond.initialized "HourClock$Fillers") ∈ zW := zW_mem (zt_1 (List.mem_of_getElem? (i := 4) rfl)) rfl
theorem zm1_5 : (Cond.initialized "HourClock$SetWalk") ∈ zW := zW_mem (zt_1 (List.mem_of_getElem? (i := 5) rfl)) rfl
theorem zm1_6 : (Cond.initialized "HourClock$Log") ∈ zW := zW_mem (zt_1 (List.mem_of_getElem? (i := 6) rfl)) rfl
theorem zm1_7 : (Cond.initialized "HourClock$Text") ∈ zW := zW_mem (zt_1 (List.mem_of_getElem? (i := 7) rfl)) rfl
theorem zm1_8 : (Cond.initialized "HourClockModel") ∈ zW := zW_mem (zt_1 (List.mem_of_getElem? (i := 8) rfl)) rfl
theorem zm1_9 : (Cond.initialized "java/lang/Throwable") ∈ zW := zW_mem (zt_1 (List.mem_of_getElem? (i := 9) rfl)) rfl
theorem zm1_10 : (Cond.initialized "java/lang/Exception") ∈ zW := zW_mem (zt_1 (List.mem_of_getElem? (i := 10) rfl)) rfl
theorem zm1_11 : (Cond.initialized "java/lang/RuntimeException") ∈ zW := zW_mem (zt_1 (List.mem_of_getElem? (i := 11) rfl)) rfl
theorem zm1_12 : (Cond.initialized "java/lang/IllegalArgumentException") ∈ zW := zW_mem (zt_1 (List.mem_of_getElem? (i := 12) rfl)) rfl
theorem zm1_13 : (Cond.initialized "java/lang/IllegalStateException") ∈ zW := zW_mem (zt_1 (List.mem_of_getElem? (i := 13) rfl)) rfl
theorem zm1_14 : (Cond.initialized "java/lang/System") ∈ zW := zW_mem (zt_1 (List.mem_of_getElem? (i := 14) rfl)) rfl
theorem zm1_15 : (Cond.initialized "java/lang/IndexOutOfBoundsException") ∈ zW := zW_mem (zt_1 (List.mem_of_getElem? (i := 15) rfl)) rfl
theorem zm1_16 : (Cond.initialized "java/lang/Integer") ∈ zW := zW_mem (zt_1 (List.mem_of_getElem? (i := 16) rfl)) rfl
theorem zm1_17 : (Cond.initialized "java/lang/Math") ∈ zW := zW_mem (zt_1 (List.mem_of_getElem? (i := 17) rfl)) rfl
theorem zm1_18 : (Cond.classLink "HourClockLaw" (8 : Nat) "HourClock") ∈ zW := zW_mem (zt_1 (List.mem_of_getElem? (i := 18) rfl)) rfl
theorem zm1_19 : (Cond.instantiable "HourClock" (5 : Nat)) ∈ zW := zW_mem (zt_1 (List.mem_of_getElem? (i := 19) rfl)) rfl
theorem zm1_20 : (Cond.methodLink "HourClockLaw" (67 : Nat) ({ cls := "HourClock", name := "<init>", desc := "()V" } : Jvm.MethodName)) ∈ zW := zW_mem (zt_1 (List.mem_of_getElem? (i := 20) rfl)) rfl
theorem zm1_21 : (Cond.instanceMethod ({ cls := "HourClock", name := "<init>", desc := "()V" } : Jvm.MethodName)) ∈ zW := zW_mem (zt_1 (List.mem_of_getElem? (i := 21) rfl)) rfl
theorem zm1_22 : (Cond.code ({ cls := "HourClock", name := "<init>", desc := "()V" } : Jvm.MethodName) prog_1_method_1_code (2 : Nat) (Option.none : Option Jvm.ClassFile.FieldType)) ∈ zW := zW_mem (zt_1 (List.mem_of_getElem? (i := 22) rfl)) rfl
theorem zm1_23 : (Cond.methodLink "HourClock" (3 : Nat) ({ cls := "java/lang/Object", name := "<init>", desc := "()V" } : Jvm.MethodName)) ∈ zW := zW_mem (zt_1 (List.mem_of_getElem? (i := 23) rfl)) rfl
theorem zm1_24 : (Cond.instanceMethod ({ cls := "java/lang/Object", name := "<init>", desc := "()V" } : Jvm.MethodName)) ∈ zW := zW_mem (zt_1 (List.mem_of_getElem? (i := 24) rfl)) rfl
theorem zm1_25 : (Cond.code ({ cls := "java/lang/Object", name := "<init>", desc := "()V" } : Jvm.MethodName) object_method_1_code (1 : Nat) (Option.none : Option Jvm.ClassFile.FieldType)) ∈ zW := zW_mem (zt_1 (List.mem_of_getElem? (i := 25) rfl)) rfl
theorem zm1_26 : (Cond.classLink "HourClock" (9 : Nat) "HourClock$Hour") ∈ zW := zW_mem (zt_1 (List.mem_of_getElem? (i := 26) rfl)) rfl
theorem zm1_27 : (Cond.instantiable "HourClock$Hour" (11 : Nat)) ∈ zW := zW_mem (zt_1 (List.mem_of_getElem? (i := 27) rfl)) rfl
theorem zm1_29 : (Cond.instanceMethod ({ cls := "HourClock$Hour", name := "<init>", desc := "()V" } : Jvm.MethodName)) ∈ zW := zW_mem (zt_1 (List.mem_of_getElem? (i := 29) rfl)) rfl
theorem zm1_30 : (Cond.code ({ cls := "HourClock$Hour", name := "<init>", desc := "()V" } : Jvm.MethodName) prog_4_method_1_code (1 : Nat) (Option.none : Option Jvm.ClassFile.FieldType)) ∈ zW := zW_mem (zt_1 (List.mem_of_getElem? (i := 30) rfl)) rfl
theorem zm1_31 : (Cond.methodLink "HourClock$Hour" (3 : Nat) ({ cls := "java/lang/Object", name := "<init>", desc := "()V" } : Jvm.MethodName)) ∈ zW := zW_mem (zt_1 (List.mem_of_getElem? (i := 31) rfl)) rfl
theorem zm1_32 : (Cond.classLink "HourClock$Hour" (9 : Nat) "HourClock$Elements") ∈ zW := zW_mem (zt_1 (List.mem_of_getElem? (i := 32) rfl)) rfl
theorem zm1_33 : (Cond.instantiable "HourClock$Elements" (6 : Nat)) ∈ zW := zW_mem (zt_1 (List.mem_of_getElem? (i := 33) rfl)) rfl
theorem zm1_35 : (Cond.instanceMethod ({ cls := "HourClock$Elements", name := "<init>", desc := "()V" } : Jvm.MethodName)) ∈ zW := zW_mem (zt_1 (List.mem_of_getElem? (i := 35) rfl)) rfl
theorem zm1_36 : (Cond.code ({ cls := "HourClock$Elements", name := "<init>", desc := "()V" } : Jvm.MethodName) prog_2_method_1_code (1 : Nat) (Option.none : Option Jvm.ClassFile.FieldType)) ∈ zW := zW_mem (zt_1 (List.mem_of_getElem? (i := 36) rfl)) rfl
theorem zm1_37 : (Cond.methodLink "HourClock$Elements" (3 : Nat) ({ cls := "java/lang/Object", name := "<init>", desc := "()V" } : Jvm.MethodName)) ∈ zW := zW_mem (zt_1 (List.mem_of_getElem? (i := 37) rfl)) rfl
theorem zm1_38 : (Cond.fieldLink "HourClock$Elements" (9 : Nat) "HourClock$Elements" "count" "I") ∈ zW := zW_mem (zt_1 (List.mem_of_getElem? (i := 38) rfl)) rfl
theorem zm1_42 : (Cond.fieldLink "HourClock$Elements" (15 : Nat) "HourClock$Elements" "length" "[I") ∈ zW := zW_mem (zt_1 (List.mem_of_getElem? (i := 42) rfl)) rfl
theorem zm1_45 : (Cond.fieldLink "HourClock$Elements" (19 : Nat) "HourClock$Elements" "time" "[I") ∈ zW := zW_mem (zt_1 (List.mem_of_getElem? (i := 45) rfl)) rfl
theorem zm1_46 : (Cond.fieldLink "HourClock$Elements" (22 : Nat) "HourClock$Elements" "rank" "[I") ∈ zW := zW_mem (zt_1 (List.mem_of_getElem? (i := 46) rfl)) rfl
theorem zm1_47 : (Cond.fieldLink "HourClock$Elements" (25 : Nat) "HourClock$Elements" "state" "[I") ∈ zW := zW_mem (zt_1 (List.mem_of_getElem? (i := 47) rfl)) rfl
theorem zm1_49 : (Cond.fieldLink "HourClock$Elements" (28 : Nat) "HourClock$Elements" "begun" "[I") ∈ zW := zW_mem (zt_1 (List.mem_of_getElem? (i := 49) rfl)) rfl
theorem zm1_51 : (Cond.lays "HourClock$Elements" "HourClock$Elements" "count" "I") ∈ zW := zW_mem (zt_1 (List.mem_of_getElem? (i := 51) rfl)) rfl
theorem zm1_53 : (Cond.laysFinal "HourClock$Elements" "HourClock$Elements" "length" "[I") ∈ zW := zW_mem (zt_1 (List.mem_of_getElem? (i := 53) rfl)) rfl
theorem zm1_55 : (Cond.laysFinal "HourClock$Elements" "HourClock$Elements" "time" "[I") ∈ zW := zW_mem (zt_1 (List.mem_of_getElem? (i := 55) rfl)) rfl
theorem zm1_57 : (Cond.laysFinal "HourClock$Elements" "HourClock$Elements" "rank" "[I") ∈ zW := zW_mem (zt_1 (List.mem_of_getElem? (i := 57) rfl)) rfl
theorem zm1_59 : (Cond.laysFinal "HourClock$Elements" "HourClock$Elements" "state" "[I") ∈ zW := zW_mem (zt_1 (List.mem_of_getElem? (i := 59) rfl)) rfl
theorem zm1_61 : (Cond.laysFinal "HourClock$Elements" "HourClock$Elements" "begun" "[I") ∈ zW := zW_mem (zt_1 (List.mem_of_getElem? (i := 61) rfl)) rfl
theorem zm1_64 : (Cond.arrayClass Jvm.ClassFile.FieldType.int) ∈ zW := zW_mem (zt_1 (List.mem_of_getElem? (i := 64) rfl)) rfl
theorem zm1_65 : (Cond.classLink "HourClock$Hour" (18 : Nat) "HourClock$Fillers") ∈ zW := zW_mem (zt_1 (List.mem_of_getElem? (i := 65) rfl)) rfl
theorem zm1_66 : (Cond.instantiable "HourClock$Fillers" (5 : Nat)) ∈ zW := zW_mem (zt_1 (List.mem_of_getElem? (i := 66) rfl)) rfl
theorem zm1_68 : (Cond.instanceMethod ({ cls := "HourClock$Fillers", name := "<init>", desc := "()V" } : Jvm.MethodName)) ∈ zW := zW_mem (zt_1 (List.mem_of_getElem? (i := 68) rfl)) rfl
theorem zm1_69 : (Cond.code ({ cls := "HourClock$Fillers", name := "<init>", desc := "()V" } : Jvm.MethodName) prog_3_method_1_code (1 : Nat) (Option.none : Option Jvm.ClassFile.FieldType)) ∈ zW := zW_mem (zt_1 (List.mem_of_getElem? (i := 69) rfl)) rfl
theorem zm1_70 : (Cond.methodLink "HourClock$Fillers" (3 : Nat) ({ cls := "java/lang/Object", name := "<init>", desc := "()V" } : Jvm.MethodName)) ∈ zW := zW_mem (zt_1 (List.mem_of_getElem? (i := 70) rfl)) rfl
theorem zm1_71 : (Cond.classLink "HourClock$Fillers" (25 : Nat) "HourClock$SetWalk") ∈ zW := zW_mem (zt_1 (List.mem_of_getElem? (i := 71) rfl)) rfl
theorem zm1_72 : (Cond.instantiable "HourClock$SetWalk" (6 : Nat)) ∈ zW := zW_mem (zt_1 (List.mem_of_getElem? (i := 72) rfl)) rfl
theorem zm1_74 : (Cond.instanceMethod ({ cls := "HourClock$SetWalk", name := "<init>", desc := "()V" } : Jvm.MethodName)) ∈ zW := zW_mem (zt_1 (List.mem_of_getElem? (i := 74) rfl)) rfl
theorem zm1_75 : (Cond.code ({ cls := "HourClock$SetWalk", name := "<init>", desc := "()V" } : Jvm.MethodName) prog_6_method_1_code (1 : Nat) (Option.none : Option Jvm.ClassFile.FieldType)) ∈ zW := zW_mem (zt_1 (List.mem_of_getElem? (i := 75) rfl)) rfl
theorem zm1_76 : (Cond.methodLink "HourClock$SetWalk" (3 : Nat) ({ cls := "java/lang/Object", name := "<init>", desc := "()V" } : Jvm.MethodName)) ∈ zW := zW_mem (zt_1 (List.mem_of_getElem? (i := 76) rfl)) rfl
theorem zm1_77 : (Cond.fieldLink "HourClock$SetWalk" (9 : Nat) "HourClock$SetWalk" "filler" "[I") ∈ zW := zW_mem (zt_1 (List.mem_of_getElem? (i := 77) rfl)) rfl
theorem zm1_78 : (Cond.fieldLink "HourClock$SetWalk" (15 : Nat) "HourClock$SetWalk" "length" "[I") ∈ zW := zW_mem (zt_1 (List.mem_of_getElem? (i := 78) rfl)) rfl
theorem zm1_79 : (Cond.fieldLink "HourClock$SetWalk" (18 : Nat) "HourClock$SetWalk" "count" "I") ∈ zW := zW_mem (zt_1 (List.mem_of_getElem? (i := 79) rfl)) rfl
theorem zm1_80 : (Cond.fieldLink "HourClock$SetWalk" (22 : Nat) "HourClock$SetWalk" "set" "I") ∈ zW := zW_mem (zt_1 (List.mem_of_getElem? (i := 80) rfl)) rfl
theorem zm1_82 : (Cond.fieldLink "HourClock$SetWalk" (25 : Nat) "HourClock$SetWalk" "sum" "I") ∈ zW := zW_mem (zt_1 (List.mem_of_getElem? (i := 82) rfl)) rfl
theorem zm1_84 : (Cond.fieldLink "HourClock$SetWalk" (28 : Nat) "HourClock$SetWalk" "size" "I") ∈ zW := zW_mem (zt_1 (List.mem_of_getElem? (i := 84) rfl)) rfl
theorem zm1_86 : (Cond.laysFinal "HourClock$SetWalk" "HourClock$SetWalk" "filler" "[I") ∈ zW := zW_mem (zt_1 (List.mem_of_getElem? (i := 86) rfl)) rfl
theorem zm1_88 : (Cond.laysFinal "HourClock$SetWalk" "HourClock$SetWalk" "length" "[I") ∈ zW := zW_mem (zt_1 (List.mem_of_getElem? (i := 88) rfl)) rfl
theorem zm1_90 : (Cond.lays "HourClock$SetWalk" "HourClock$SetWalk" "count" "I") ∈ zW := zW_mem (zt_1 (List.mem_of_getElem? (i := 90) rfl)) rfl
theorem zm1_92 : (Cond.lays "HourClock$SetWalk" "HourClock$SetWalk" "set" "I") ∈ zW := zW_mem (zt_1 (List.mem_of_getElem? (i := 92) rfl)) rfl
theorem zm1_94 : (Cond.lays "HourClock$SetWalk" "HourClock$SetWalk" "sum" "I") ∈ zW := zW_mem (zt_1 (List.mem_of_getElem? (i := 94) rfl)) rfl
theorem zm1_96 : (Cond.lays "HourClock$SetWalk" "HourClock$SetWalk" "size" "I") ∈ zW := zW_mem (zt_1 (List.mem_of_getElem? (i := 96) rfl)) rfl
theorem zm1_99 : (Cond.fieldLink "HourClock$Fillers" (9 : Nat) "HourClock$Fillers" "count" "I") ∈ zW := zW_mem (zt_1 (List.mem_of_getElem? (i := 99) rfl)) rfl
theorem zm1_104 : (Cond.fieldLink "HourClock$Fillers" (15 : Nat) "HourClock$Fillers" "length" "[I") ∈ zW := zW_mem (zt_1 (List.mem_of_getElem? (i := 104) rfl)) rfl
theorem zm1_107 : (Cond.fieldLink "HourClock$Fillers" (19 : Nat) "HourClock$Fillers" "state" "[I") ∈ zW := zW_mem (zt_1 (List.mem_of_getElem? (i := 107) rfl)) rfl
theorem zm1_110 : (Cond.fieldLink "HourClock$Fillers" (22 : Nat) "HourClock$Fillers" "begun" "[I") ∈ zW := zW_mem (zt_1 (List.mem_of_getElem? (i := 110) rfl)) rfl
theorem zm1_112 : (Cond.fieldLink "HourClock$Fillers" (28 : Nat) "HourClock$Fillers" "walk" "LHourClock$SetWalk;") ∈ zW := zW_mem (zt_1 (List.mem_of_getElem? (i := 112) rfl)) rfl
theorem zm1_113 : (Cond.lays "HourClock$Fillers" "HourClock$Fillers" "count" "I") ∈ zW := zW_mem (zt_1 (List.mem_of_getElem? (i := 113) rfl)) rfl
theorem zm1_115 : (Cond.laysFinal "HourClock$Fillers" "HourClock$Fillers" "length" "[I") ∈ zW := zW_mem (zt_1 (List.mem_of_getElem? (i := 115) rfl)) rfl
theorem zm1_117 : (Cond.laysFinal "HourClock$Fillers" "HourClock$Fillers" "state" "[I") ∈ zW := zW_mem (zt_1 (List.mem_of_getElem? (i := 117) rfl)) rfl
theorem zm1_119 : (Cond.laysFinal "HourClock$Fillers" "HourClock$Fillers" "begun" "[I") ∈ zW := zW_mem (zt_1 (List.mem_of_getElem? (i := 119) rfl)) rfl
theorem zm1_121 : (Cond.laysFinal "HourClock$Fillers" "HourClock$Fillers" "walk" "LHourClock$SetWalk;") ∈ zW := zW_mem (zt_1 (List.mem_of_getElem? (i := 121) rfl)) rfl
theorem zm1_124 : (Cond.classLink "HourClock$Hour" (25 : Nat) "HourClock$Log") ∈ zW := zW_mem (zt_1 (List.mem_of_getElem? (i := 124) rfl)) rfl
theorem zm1_125 : (Cond.instantiable "HourClock$Log" (4 : Nat)) ∈ zW := zW_mem (zt_1 (List.mem_of_getElem? (i := 125) rfl)) rfl
theorem zm1_127 : (Cond.instanceMethod ({ cls := "HourClock$Log", name := "<init>", desc := "()V" } : Jvm.MethodName)) ∈ zW := zW_mem (zt_1 (List.mem_of_getElem? (i := 127) rfl)) rfl
theorem zm1_128 : (Cond.code ({ cls := "HourClock$Log", name := "<init>", desc := "()V" } : Jvm.MethodName) prog_5_method_1_code (1 : Nat) (Option.none : Option Jvm.ClassFile.FieldType)) ∈ zW := zW_mem (zt_1 (List.mem_of_getElem? (i := 128) rfl)) rfl
theorem zm1_129 : (Cond.methodLink "HourClock$Log" (3 : Nat) ({ cls := "java/lang/Object", name := "<init>", desc := "()V" } : Jvm.MethodName)) ∈ zW := zW_mem (zt_1 (List.mem_of_getElem? (i := 129) rfl)) rfl
theorem zm1_130 : (Cond.fieldLink "HourClock$Log" (9 : Nat) "HourClock$Log" "count" "I") ∈ zW := zW_mem (zt_1 (List.mem_of_getElem? (i := 130) rfl)) rfl
theorem zm1_133 : (Cond.fieldLink "HourClock$Log" (15 : Nat) "HourClock$Log" "second" "[I") ∈ zW := zW_mem (zt_1 (List.mem_of_getElem? (i := 133) rfl)) rfl
theorem zm1_134 : (Cond.fieldLink "HourClock$Log" (19 : Nat) "HourClock$Log" "kind" "[I") ∈ zW := zW_mem (zt_1 (List.mem_of_getElem? (i := 134) rfl)) rfl
theorem zm1_135 : (Cond.fieldLink "HourClock$Log" (22 : Nat) "HourClock$Log" "number" "[I") ∈ zW := zW_mem (zt_1 (List.mem_of_getElem? (i := 135) rfl)) rfl
theorem zm1_136 : (Cond.lays "HourClock$Log" "HourClock$Log" "count" "I") ∈ zW := zW_mem (zt_1 (List.mem_of_getElem? (i := 136) rfl)) rfl
theorem zm1_138 : (Cond.laysFinal "HourClock$Log" "HourClock$Log" "second" "[I") ∈ zW := zW_mem (zt_1 (List.mem_of_getElem? (i := 138) rfl)) rfl
theorem zm1_140 : (Cond.laysFinal "HourClock$Log" "HourClock$Log" "kind" "[I") ∈ zW := zW_mem (zt_1 (List.mem_of_getElem? (i := 140) rfl)) rfl
theorem zm1_142 : (Cond.laysFinal "HourClock$Log" "HourClock$Log" "number" "[I") ∈ zW := zW_mem (zt_1 (List.mem_of_getElem? (i := 142) rfl)) rfl
theorem zm1_145 : (Cond.fieldLink "HourClock$Hour" (12 : Nat) "HourClock$Hour" "elements" "LHourClock$Elements;") ∈ zW := zW_mem (zt_1 (List.mem_of_getElem? (i := 145) rfl)) rfl
theorem zm1_148 : (Cond.fieldLink "HourClock$Hour" (21 : Nat) "HourClock$Hour" "fillers" "LHourClock$Fillers;") ∈ zW := zW_mem (zt_1 (List.mem_of_getElem? (i := 148) rfl)) rfl
theorem zm1_151 : (Cond.fieldLink "HourClock$Hour" (28 : Nat) "HourClock$Hour" "log" "LHourClock$Log;") ∈ zW := zW_mem (zt_1 (List.mem_of_getElem? (i := 151) rfl)) rfl
theorem zm1_153 : (Cond.fieldLink "HourClock$Hour" (32 : Nat) "HourClock$Hour" "second" "I") ∈ zW := zW_mem (zt_1 (List.mem_of_getElem? (i := 153) rfl)) rfl
theorem zm1_155 : (Cond.fieldLink "HourClock$Hour" (36 : Nat) "HourClock$Hour" "over" "Z") ∈ zW := zW_mem (zt_1 (List.mem_of_getElem? (i := 155) rfl)) rfl
theorem zm1_157 : (Cond.fieldLink "HourClock$Hour" (40 : Nat) "HourClock$Hour" "silentSeconds" "I") ∈ zW := zW_mem (zt_1 (List.mem_of_getElem? (i := 157) rfl)) rfl
theorem zm1_159 : (Cond.fieldLink "HourClock$Hour" (43 : Nat) "HourClock$Hour" "greatestLateness" "I") ∈ zW := zW_mem (zt_1 (List.mem_of_getElem? (i := 159) rfl)) rfl
theorem zm1_160 : (Cond.fieldLink "HourClock$Hour" (46 : Nat) "HourClock$Hour" "hoursBegun" "I") ∈ zW := zW_mem (zt_1 (List.mem_of_getElem? (i := 160) rfl)) rfl
theorem zm1_162 : (Cond.fieldLink "HourClock$Hour" (49 : Nat) "HourClock$Hour" "airKind" "I") ∈ zW := zW_mem (zt_1 (List.mem_of_getElem? (i := 162) rfl)) rfl
theorem zm1_163 : (Cond.fieldLink "HourClock$Hour" (52 : Nat) "HourClock$Hour" "airNumber" "I") ∈ zW := zW_mem (zt_1 (List.mem_of_getElem? (i := 163) rfl)) rfl
theorem zm1_164 : (Cond.fieldLink "HourClock$Hour" (55 : Nat) "HourClock$Hour" "airEnd" "I") ∈ zW := zW_mem (zt_1 (List.mem_of_getElem? (i := 164) rfl)) rfl
theorem zm1_165 : (Cond.laysFinal "HourClock$Hour" "HourClock$Hour" "elements" "LHourClock$Elements;") ∈ zW := zW_mem (zt_1 (List.mem_of_getElem? (i := 165) rfl)) rfl
theorem zm1_167 : (Cond.laysFinal "HourClock$Hour" "HourClock$Hour" "fillers" "LHourClock$Fillers;") ∈ zW := zW_mem (zt_1 (List.mem_of_getElem? (i := 167) rfl)) rfl
theorem zm1_169 : (Cond.laysFinal "HourClock$Hour" "HourClock$Hour" "log" "LHourClock$Log;") ∈ zW := zW_mem (zt_1 (List.mem_of_getElem? (i := 169) rfl)) rfl
theorem zm1_171 : (Cond.lays "HourClock$Hour" "HourClock$Hour" "second" "I") ∈ zW := zW_mem (zt_1 (List.mem_of_getElem? (i := 171) rfl)) rfl
theorem zm1_173 : (Cond.lays "HourClock$Hour" "HourClock$Hour" "over" "Z") ∈ zW := zW_mem (zt_1 (List.mem_of_getElem? (i := 173) rfl)) rfl
theorem zm1_175 : (Cond.lays "HourClock$Hour" "HourClock$Hour" "silentSeconds" "I") ∈ zW := zW_mem (zt_1 (List.mem_of_getElem? (i := 175) rfl)) rfl
theorem zm1_177 : (Cond.lays "HourClock$Hour" "HourClock$Hour" "greatestLateness" "I") ∈ zW := zW_mem (zt_1 (List.mem_of_getElem? (i := 177) rfl)) rfl
theorem zm1_179 : (Cond.lays "HourClock$Hour" "HourClock$Hour" "hoursBegun" "I") ∈ zW := zW_mem (zt_1 (List.mem_of_getElem? (i := 179) rfl)) rfl
theorem zm1_181 : (Cond.lays "HourClock$Hour" "HourClock$Hour" "airKind" "I") ∈ zW := zW_mem (zt_1 (List.mem_of_getElem? (i := 181) rfl)) rfl
theorem zm1_183 : (Cond.lays "HourClock$Hour" "HourClock$Hour" "airNumber" "I") ∈ zW := zW_mem (zt_1 (List.mem_of_getElem? (i := 183) rfl)) rfl
theorem zm1_185 : (Cond.lays "HourClock$Hour" "HourClock$Hour" "airEnd" "I") ∈ zW := zW_mem (zt_1 (List.mem_of_getElem? (i := 185) rfl)) rfl
theorem zm1_189 : (Cond.classLink "HourClock" (27 : Nat) "HourClock$Text") ∈ zW := zW_mem (zt_1 (List.mem_of_getElem? (i := 189) rfl)) rfl
theorem zm1_190 : (Cond.instantiable "HourClock$Text" (4 : Nat)) ∈ zW := zW_mem (zt_1 (List.mem_of_getElem? (i := 190) rfl)) rfl
theorem zm1_192 : (Cond.instanceMethod ({ cls := "HourClock$Text", name := "<init>", desc := "()V" } : Jvm.MethodName)) ∈ zW := zW_mem (zt_1 (List.mem_of_getElem? (i := 192) rfl)) rfl
theorem zm1_193 : (Cond.code ({ cls := "HourClock$Text", name := "<init>", desc := "()V" } : Jvm.MethodName) prog_7_method_1_code (1 : Nat) (Option.none : Option Jvm.ClassFile.FieldType)) ∈ zW := zW_mem (zt_1 (List.mem_of_getElem? (i := 193) rfl)) rfl
theorem zm1_194 : (Cond.methodLink "HourClock$Text" (3 : Nat) ({ cls := "java/lang/Object", name := "<init>", desc := "()V" } : Jvm.MethodName)) ∈ zW := zW_mem (zt_1 (List.mem_of_getElem? (i := 194) rfl)) rfl
theorem zm1_195 : (Cond.fieldLink "HourClock$Text" (9 : Nat) "HourClock$Text" "bytes" "[I") ∈ zW := zW_mem (zt_1 (List.mem_of_getElem? (i := 195) rfl)) rfl
theorem zm1_196 : (Cond.fieldLink "HourClock$Text" (15 : Nat) "HourClock$Text" "length" "I") ∈ zW := zW_mem (zt_1 (List.mem_of_getElem? (i := 196) rfl)) rfl
theorem zm1_198 : (Cond.fieldLink "HourClock$Text" (19 : Nat) "HourClock$Text" "at" "I") ∈ zW := zW_mem (zt_1 (List.mem_of_getElem? (i := 198) rfl)) rfl
theorem zm1_199 : (Cond.fieldLink "HourClock$Text" (22 : Nat) "HourClock$Text" "error" "I") ∈ zW := zW_mem (zt_1 (List.mem_of_getElem? (i := 199) rfl)) rfl
theorem zm1_200 : (Cond.laysFinal "HourClock$Text" "HourClock$Text" "bytes" "[I") ∈ zW := zW_mem (zt_1 (List.mem_of_getElem? (i := 200) rfl)) rfl
theorem zm1_202 : (Cond.lays "HourClock$Text" "HourClock$Text" "length" "I") ∈ zW := zW_mem (zt_1 (List.mem_of_getElem? (i := 202) rfl)) rfl
theorem zm1_204 : (Cond.lays "HourClock$Text" "HourClock$Text" "at" "I") ∈ zW := zW_mem (zt_1 (List.mem_of_getElem? (i := 204) rfl)) rfl
theorem zm1_206 : (Cond.lays "HourClock$Text" "HourClock$Text" "error" "I") ∈ zW := zW_mem (zt_1 (List.mem_of_getElem? (i := 206) rfl)) rfl
theorem zm1_209 : (Cond.fieldLink "HourClock" (12 : Nat) "HourClock" "now" "LHourClock$Hour;") ∈ zW := zW_mem (zt_1 (List.mem_of_getElem? (i := 209) rfl)) rfl
theorem zm1_210 : (Cond.fieldLink "HourClock" (16 : Nat) "HourClock" "scratch" "LHourClock$Hour;") ∈ zW := zW_mem (zt_1 (List.mem_of_getElem? (i := 210) rfl)) rfl
theorem zm1_211 : (Cond.fieldLink "HourClock" (19 : Nat) "HourClock" "saved" "[LHourClock$Hour;") ∈ zW := zW_mem (zt_1 (List.mem_of_getElem? (i := 211) rfl)) rfl
theorem zm1_212 : (Cond.fieldLink "HourClock" (23 : Nat) "HourClock" "savedCount" "I") ∈ zW := zW_mem (zt_1 (List.mem_of_getElem? (i := 212) rfl)) rfl
theorem zm1_213 : (Cond.fieldLink "HourClock" (30 : Nat) "HourClock" "text" "LHourClock$Text;") ∈ zW := zW_mem (zt_1 (List.mem_of_getElem? (i := 213) rfl)) rfl
theorem zm1_214 : (Cond.laysFinal "HourClock" "HourClock" "now" "LHourClock$Hour;") ∈ zW := zW_mem (zt_1 (List.mem_of_getElem? (i := 214) rfl)) rfl
theorem zm1_216 : (Cond.laysFinal "HourClock" "HourClock" "scratch" "LHourClock$Hour;") ∈ zW := zW_mem (zt_1 (List.mem_of_getElem? (i := 216) rfl)) rfl
theorem zm1_218 : (Cond.laysFinal "HourClock" "HourClock" "saved" "[LHourClock$Hour;") ∈ zW := zW_mem (zt_1 (List.mem_of_getElem? (i := 218) rfl)) rfl
theorem zm1_220 : (Cond.lays "HourClock" "HourClock" "savedCount" "I") ∈ zW := zW_mem (zt_1 (List.mem_of_getElem? (i := 220) rfl)) rfl
theorem zm1_222 : (Cond.laysFinal "HourClock" "HourClock" "text" "LHourClock$Text;") ∈ zW := zW_mem (zt_1 (List.mem_of_getElem? (i := 222) rfl)) rfl
theorem zm1_225 : (Cond.methodLink "HourClockLaw" (94 : Nat) ({ cls := "HourClock", name := "finish", desc := "()I" } : Jvm.MethodName)) ∈ zW := zW_mem (zt_1 (List.mem_of_getElem? (i := 225) rfl)) rfl
theorem zm1_226 : (Cond.instanceMethod ({ cls := "HourClock", name := "finish", desc := "()I" } : Jvm.MethodName)) ∈ zW := zW_mem (zt_1 (List.mem_of_getElem? (i := 226) rfl)) rfl
theorem zm1_227 : (Cond.selects "HourClock" ({ cls := "HourClock", name := "finish", desc := "()I" } : Jvm.MethodName) ({ cls := "HourClock", name := "finish", desc := "()I" } : Jvm.MethodName)) ∈ zW := zW_mem (zt_1 (List.mem_of_getElem? (i := 227) rfl)) rfl
theorem zm1_228 : (Cond.code ({ cls := "HourClock", name := "finish", desc := "()I" } : Jvm.MethodName) prog_1_method_7_code (1 : Nat) (Option.some Jvm.ClassFile.FieldType.int)) ∈ zW := zW_mem (zt_1 (List.mem_of_getElem? (i := 228) rfl)) rfl
theorem zm1_229 : (Cond.methodLink "HourClock" (63 : Nat) ({ cls := "HourClock", name := "save", desc := "()V" } : Jvm.MethodName)) ∈ zW := zW_mem (zt_1 (List.mem_of_getElem? (i := 229) rfl)) rfl
theorem zm1_231 : (Cond.instanceMethod ({ cls := "HourClock", name := "save", desc := "()V" } : Jvm.MethodName)) ∈ zW := zW_mem (zt_1 (List.mem_of_getElem? (i := 231) rfl)) rfl
theorem zm1_232 : (Cond.code ({ cls := "HourClock", name := "save", desc := "()V" } : Jvm.MethodName) prog_1_method_27_code (1 : Nat) (Option.none : Option Jvm.ClassFile.FieldType)) ∈ zW := zW_mem (zt_1 (List.mem_of_getElem? (i := 232) rfl)) rfl
theorem zm1_233 : (Cond.methodLink "HourClock" (207 : Nat) ({ cls := "HourClock", name := "forgetOldest", desc := "()V" } : Jvm.MethodName)) ∈ zW := zW_mem (zt_1 (List.mem_of_getElem? (i := 233) rfl)) rfl
theorem zm1_235 : (Cond.instanceMethod ({ cls := "HourClock", name := "forgetOldest", desc := "()V" } : Jvm.MethodName)) ∈ zW := zW_mem (zt_1 (List.mem_of_getElem? (i := 235) rfl)) rfl
theorem zm1_236 : (Cond.code ({ cls := "HourClock", name := "forgetOldest", desc := "()V" } : Jvm.MethodName) prog_1_method_28_code (3 : Nat) (Option.none : Option Jvm.ClassFile.FieldType)) ∈ zW := zW_mem (zt_1 (List.mem_of_getElem? (i := 236) rfl)) rfl
theorem zm1_239 : (Cond.instanceMethod ({ cls := "HourClock$Hour", name := "copyFrom", desc := "(LHourClock$Hour;)V" } : Jvm.MethodName)) ∈ zW := zW_mem (zt_1 (List.mem_of_getElem? (i := 239) rfl)) rfl
theorem zm2_0 : (Cond.code ({ cls := "HourClock$Hour", name := "copyFrom", desc := "(LHourClock$Hour;)V" } : Jvm.MethodName) prog_4_method_2_code (2 : Nat) (Option.none : Option Jvm.ClassFile.FieldType)) ∈ zW := zW_mem (zt_2 (List.mem_of_getElem? (i := 0) rfl)) rfl
theorem zm2_3 : (Cond.instanceMethod ({ cls := "HourClock$Elements", name := "copyFrom", desc := "(LHourClock$Elements;)V" } : Jvm.MethodName)) ∈ zW := zW_mem (zt_2 (List.mem_of_getElem? (i := 3) rfl)) rfl
theorem zm2_4 : (Cond.code ({ cls := "HourClock$Elements", name := "copyFrom", desc := "(LHourClock$Elements;)V" } : Jvm.MethodName) prog_2_method_2_code (2 : Nat) (Option.none : Option Jvm.ClassFile.FieldType)) ∈ zW := zW_mem (zt_2 (List.mem_of_getElem? (i := 4) rfl)) rfl
theorem zm2_5 : (Cond.methodLink "HourClock$Elements" (31 : Nat) ({ cls := "java/lang/System", name := "arraycopy", desc := "(Ljava/lang/Object;ILjava/lang/Object;II)V" } : Jvm.MethodName)) ∈ zW := zW_mem (zt_2 (List.mem_of_getElem? (i := 5) rfl)) rfl
theorem zm2_6 : (Cond.static ({ cls := "java/lang/System", name := "arraycopy", desc := "(Ljava/lang/Object;ILjava/lang/Object;II)V" } : Jvm.MethodName)) ∈ zW := zW_mem (zt_2 (List.mem_of_getElem? (i := 6) rfl)) rfl
theorem zm2_7 : (Cond.native ({ cls := "java/lang/System", name := "arraycopy", desc := "(Ljava/lang/Object;ILjava/lang/Object;II)V" } : Jvm.MethodName)) ∈ zW := zW_mem (zt_2 (List.mem_of_getElem? (i := 7) rfl)) rfl
theorem zm2_10 : (Cond.instanceMethod ({ cls := "HourClock$Fillers", name := "copyFrom", desc := "(LHourClock$Fillers;)V" } : Jvm.MethodName)) ∈ zW := zW_mem (zt_2 (List.mem_of_getElem? (i := 10) rfl)) rfl
theorem zm2_11 : (Cond.code ({ cls := "HourClock$Fillers", name := "copyFrom", desc := "(LHourClock$Fillers;)V" } : Jvm.MethodName) prog_3_method_2_code (2 : Nat) (Option.none : Option Jvm.ClassFile.FieldType)) ∈ zW := zW_mem (zt_2 (List.mem_of_getElem? (i := 11) rfl)) rfl
theorem zm2_12 : (Cond.methodLink "HourClock$Fillers" (32 : Nat) ({ cls := "java/lang/System", name := "arraycopy", desc := "(Ljava/lang/Object;ILjava/lang/Object;II)V" } : Jvm.MethodName)) ∈ zW := zW_mem (zt_2 (List.mem_of_getElem? (i := 12) rfl)) rfl
theorem zm2_15 : (Cond.instanceMethod ({ cls := "HourClock$Log", name := "copyFrom", desc := "(LHourClock$Log;)V" } : Jvm.MethodName)) ∈ zW := zW_mem (zt_2 (List.mem_of_getElem? (i := 15) rfl)) rfl
theorem zm2_16 : (Cond.code ({ cls := "HourClock$Log", name := "copyFrom", desc := "(LHourClock$Log;)V" } : Jvm.MethodName) prog_5_method_2_code (2 : Nat) (Option.none : Option Jvm.ClassFile.FieldType)) ∈ zW := zW_mem (zt_2 (List.mem_of_getElem? (i := 16) rfl)) rfl
theorem zm2_17 : (Cond.methodLink "HourClock$Log" (25 : Nat) ({ cls := "java/lang/System", name := "arraycopy", desc := "(Ljava/lang/Object;ILjava/lang/Object;II)V" } : Jvm.MethodName)) ∈ zW := zW_mem (zt_2 (List.mem_of_getElem? (i := 17) rfl)) rfl
theorem zm2_18 : (Cond.constant "HourClock" (126 : Nat) (1000000 : Int32)) ∈ zW := zW_mem (zt_2 (List.mem_of_getElem? (i := 18) rfl)) rfl
theorem zm2_21 : (Cond.instanceMethod ({ cls := "HourClock$Hour", name := "runTo", desc := "(I)V" } : Jvm.MethodName)) ∈ zW := zW_mem (zt_2 (List.mem_of_getElem? (i := 21) rfl)) rfl
theorem zm2_22 : (Cond.code ({ cls := "HourClock$Hour", name := "runTo", desc := "(I)V" } : Jvm.MethodName) prog_4_method_6_code (3 : Nat) (Option.none : Option Jvm.ClassFile.FieldType)) ∈ zW := zW_mem (zt_2 (List.mem_of_getElem? (i := 22) rfl)) rfl
theorem zm2_23 : (Cond.methodLink "HourClock$Hour" (83 : Nat) ({ cls := "HourClock$Hour", name := "findNext", desc := "()V" } : Jvm.MethodName)) ∈ zW := zW_mem (zt_2 (List.mem_of_getElem? (i := 23) rfl)) rfl
theorem zm2_25 : (Cond.instanceMethod ({ cls := "HourClock$Hour", name := "findNext", desc := "()V" } : Jvm.MethodName)) ∈ zW := zW_mem (zt_2 (List.mem_of_getElem? (i := 25) rfl)) rfl
theorem zm2_26 : (Cond.code ({ cls := "HourClock$Hour", name := "findNext", desc := "()V" } : Jvm.MethodName) prog_4_method_9_code (4 : Nat) (Option.none : Option Jvm.ClassFile.FieldType)) ∈ zW := zW_mem (zt_2 (List.mem_of_getElem? (i := 26) rfl)) rfl
theorem zm2_27 : (Cond.methodLink "HourClock$Hour" (109 : Nat) ({ cls := "HourClock$Hour", name := "dropForTime", desc := "()V" } : Jvm.MethodName)) ∈ zW := zW_mem (zt_2 (List.mem_of_getElem? (i := 27) rfl)) rfl
theorem zm2_29 : (Cond.instanceMethod ({ cls := "HourClock$Hour", name := "dropForTime", desc := "()V" } : Jvm.MethodName)) ∈ zW := zW_mem (zt_2 (List.mem_of_getElem? (i := 29) rfl)) rfl
theorem zm2_30 : (Cond.code ({ cls := "HourClock$Hour", name := "dropForTime", desc := "()V" } : Jvm.MethodName) prog_4_method_10_code (3 : Nat) (Option.none : Option Jvm.ClassFile.FieldType)) ∈ zW := zW_mem (zt_2 (List.mem_of_getElem? (i := 30) rfl)) rfl
theorem zm2_33 : (Cond.instanceMethod ({ cls := "HourClock$Elements", name := "leastOfSection", desc := "()I" } : Jvm.MethodName)) ∈ zW := zW_mem (zt_2 (List.mem_of_getElem? (i := 33) rfl)) rfl
theorem zm2_34 : (Cond.code ({ cls := "HourClock$Elements", name := "leastOfSection", desc := "()I" } : Jvm.MethodName) prog_2_method_19_code (5 : Nat) (Option.some Jvm.ClassFile.FieldType.int)) ∈ zW := zW_mem (zt_2 (List.mem_of_getElem? (i := 34) rfl)) rfl
theorem zm2_35 : (Cond.methodLink "HourClock$Elements" (48 : Nat) ({ cls := "HourClock$Elements", name := "nextFixed", desc := "(I)I" } : Jvm.MethodName)) ∈ zW := zW_mem (zt_2 (List.mem_of_getElem? (i := 35) rfl)) rfl
theorem zm2_37 : (Cond.instanceMethod ({ cls := "HourClock$Elements", name := "nextFixed", desc := "(I)I" } : Jvm.MethodName)) ∈ zW := zW_mem (zt_2 (List.mem_of_getElem? (i := 37) rfl)) rfl
theorem zm2_38 : (Cond.code ({ cls := "HourClock$Elements", name := "nextFixed", desc := "(I)I" } : Jvm.MethodName) prog_2_method_12_code (3 : Nat) (Option.some Jvm.ClassFile.FieldType.int)) ∈ zW := zW_mem (zt_2 (List.mem_of_getElem? (i := 38) rfl)) rfl
theorem zm2_41 : (Cond.instanceMethod ({ cls := "HourClock$Elements", name := "sectionLength", desc := "()I" } : Jvm.MethodName)) ∈ zW := zW_mem (zt_2 (List.mem_of_getElem? (i := 41) rfl)) rfl
theorem zm2_42 : (Cond.code ({ cls := "HourClock$Elements", name := "sectionLength", desc := "()I" } : Jvm.MethodName) prog_2_method_18_code (1 : Nat) (Option.some Jvm.ClassFile.FieldType.int)) ∈ zW := zW_mem (zt_2 (List.mem_of_getElem? (i := 42) rfl)) rfl
theorem zm2_43 : (Cond.methodLink "HourClock$Elements" (58 : Nat) ({ cls := "HourClock$Elements", name := "waitingLength", desc := "(II)I" } : Jvm.MethodName)) ∈ zW := zW_mem (zt_2 (List.mem_of_getElem? (i := 43) rfl)) rfl
theorem zm2_45 : (Cond.instanceMethod ({ cls := "HourClock$Elements", name := "waitingLength", desc := "(II)I" } : Jvm.MethodName)) ∈ zW := zW_mem (zt_2 (List.mem_of_getElem? (i := 45) rfl)) rfl
theorem zm2_46 : (Cond.code ({ cls := "HourClock$Elements", name := "waitingLength", desc := "(II)I" } : Jvm.MethodName) prog_2_method_17_code (5 : Nat) (Option.some Jvm.ClassFile.FieldType.int)) ∈ zW := zW_mem (zt_2 (List.mem_of_getElem? (i := 46) rfl)) rfl
theorem zm2_49 : (Cond.instanceMethod ({ cls := "HourClock$Elements", name := "goal", desc := "()I" } : Jvm.MethodName)) ∈ zW := zW_mem (zt_2 (List.mem_of_getElem? (i := 49) rfl)) rfl
theorem zm2_50 : (Cond.code ({ cls := "HourClock$Elements", name := "goal", desc := "()I" } : Jvm.MethodName) prog_2_method_14_code (1 : Nat) (Option.some Jvm.ClassFile.FieldType.int)) ∈ zW := zW_mem (zt_2 (List.mem_of_getElem? (i := 50) rfl)) rfl
theorem zm2_51 : (Cond.methodLink "HourClock$Elements" (52 : Nat) ({ cls := "HourClock$Elements", name := "timeOrHourEnd", desc := "(I)I" } : Jvm.MethodName)) ∈ zW := zW_mem (zt_2 (List.mem_of_getElem? (i := 51) rfl)) rfl
theorem zm2_53 : (Cond.instanceMethod ({ cls := "HourClock$Elements", name := "timeOrHourEnd", desc := "(I)I" } : Jvm.MethodName)) ∈ zW := zW_mem (zt_2 (List.mem_of_getElem? (i := 53) rfl)) rfl
theorem zm2_54 : (Cond.code ({ cls := "HourClock$Elements", name := "timeOrHourEnd", desc := "(I)I" } : Jvm.MethodName) prog_2_method_13_code (2 : Nat) (Option.some Jvm.ClassFile.FieldType.int)) ∈ zW := zW_mem (zt_2 (List.mem_of_getElem? (i := 54) rfl)) rfl
theorem zm2_55 : (Cond.methodLink "HourClock$Elements" (37 : Nat) ({ cls := "HourClock$Elements", name := "has", desc := "(I)Z" } : Jvm.MethodName)) ∈ zW := zW_mem (zt_2 (List.mem_of_getElem? (i := 55) rfl)) rfl
theorem zm2_57 : (Cond.instanceMethod ({ cls := "HourClock$Elements", name := "has", desc := "(I)Z" } : Jvm.MethodName)) ∈ zW := zW_mem (zt_2 (List.mem_of_getElem? (i := 57) rfl)) rfl
theorem zm2_58 : (Cond.code ({ cls := "HourClock$Elements", name := "has", desc := "(I)Z" } : Jvm.MethodName) prog_2_method_5_code (2 : Nat) (Option.some Jvm.ClassFile.FieldType.boolean)) ∈ zW := zW_mem (zt_2 (List.mem_of_getElem? (i := 58) rfl)) rfl
theorem zm2_59 : (Cond.methodLink "HourClock$Hour" (134 : Nat) ({ cls := "HourClock$Hour", name := "dropElement", desc := "(I)V" } : Jvm.MethodName)) ∈ zW := zW_mem (zt_2 (List.mem_of_getElem? (i := 59) rfl)) rfl
theorem zm2_61 : (Cond.instanceMethod ({ cls := "HourClock$Hour", name := "dropElement", desc := "(I)V" } : Jvm.MethodName)) ∈ zW := zW_mem (zt_2 (List.mem_of_getElem? (i := 61) rfl)) rfl
theorem zm2_62 : (Cond.code ({ cls := "HourClock$Hour", name := "dropElement", desc := "(I)V" } : Jvm.MethodName) prog_4_method_11_code (2 : Nat) (Option.none : Option Jvm.ClassFile.FieldType)) ∈ zW := zW_mem (zt_2 (List.mem_of_getElem? (i := 62) rfl)) rfl
theorem zm2_66 : (Cond.instanceMethod ({ cls := "HourClock$Log", name := "add", desc := "(III)V" } : Jvm.MethodName)) ∈ zW := zW_mem (zt_2 (List.mem_of_getElem? (i := 66) rfl)) rfl
theorem zm2_67 : (Cond.code ({ cls := "HourClock$Log", name := "add", desc := "(III)V" } : Jvm.MethodName) prog_5_method_3_code (4 : Nat) (Option.none : Option Jvm.ClassFile.FieldType)) ∈ zW := zW_mem (zt_2 (List.mem_of_getElem? (i := 67) rfl)) rfl
theorem zm2_70 : (Cond.instanceMethod ({ cls := "HourClock$Elements", name := "firstThatWaits", desc := "()I" } : Jvm.MethodName)) ∈ zW := zW_mem (zt_2 (List.mem_of_getElem? (i := 70) rfl)) rfl
theorem zm2_71 : (Cond.code ({ cls := "HourClock$Elements", name := "firstThatWaits", desc := "()I" } : Jvm.MethodName) prog_2_method_16_code (2 : Nat) (Option.some Jvm.ClassFile.FieldType.int)) ∈ zW := zW_mem (zt_2 (List.mem_of_getElem? (i := 71) rfl)) rfl
theorem zm2_74 : (Cond.instanceMethod ({ cls := "HourClock$Elements", name := "isFixed", desc := "(I)Z" } : Jvm.MethodName)) ∈ zW := zW_mem (zt_2 (List.mem_of_getElem? (i := 74) rfl)) rfl
theorem zm2_75 : (Cond.code ({ cls := "HourClock$Elements", name := "isFixed", desc := "(I)Z" } : Jvm.MethodName) prog_2_method_8_code (2 : Nat) (Option.some Jvm.ClassFile.FieldType.boolean)) ∈ zW := zW_mem (zt_2 (List.mem_of_getElem? (i := 75) rfl)) rfl
theorem zm2_76 : (Cond.methodLink "HourClock$Hour" (122 : Nat) ({ cls := "HourClock$Hour", name := "fillGap", desc := "(I)V" } : Jvm.MethodName)) ∈ zW := zW_mem (zt_2 (List.mem_of_getElem? (i := 76) rfl)) rfl
theorem zm2_78 : (Cond.instanceMethod ({ cls := "HourClock$Hour", name := "fillGap", desc := "(I)V" } : Jvm.MethodName)) ∈ zW := zW_mem (zt_2 (List.mem_of_getElem? (i := 78) rfl)) rfl
theorem zm2_79 : (Cond.code ({ cls := "HourClock$Hour", name := "fillGap", desc := "(I)V" } : Jvm.MethodName) prog_4_method_12_code (4 : Nat) (Option.none : Option Jvm.ClassFile.FieldType)) ∈ zW := zW_mem (zt_2 (List.mem_of_getElem? (i := 79) rfl)) rfl
theorem zm2_82 : (Cond.instanceMethod ({ cls := "HourClock$Fillers", name := "chooseFor", desc := "(I)I" } : Jvm.MethodName)) ∈ zW := zW_mem (zt_2 (List.mem_of_getElem? (i := 82) rfl)) rfl
theorem zm2_83 : (Cond.code ({ cls := "HourClock$Fillers", name := "chooseFor", desc := "(I)I" } : Jvm.MethodName) prog_3_method_7_code (8 : Nat) (Option.some Jvm.ClassFile.FieldType.int)) ∈ zW := zW_mem (zt_2 (List.mem_of_getElem? (i := 83) rfl)) rfl
theorem zm2_86 : (Cond.instanceMethod ({ cls := "HourClock$SetWalk", name := "begin", desc := "(LHourClock$Fillers;)I" } : Jvm.MethodName)) ∈ zW := zW_mem (zt_2 (List.mem_of_getElem? (i := 86) rfl)) rfl
theorem zm2_87 : (Cond.code ({ cls := "HourClock$SetWalk", name := "begin", desc := "(LHourClock$Fillers;)I" } : Jvm.MethodName) prog_6_method_2_code (3 : Nat) (Option.some Jvm.ClassFile.FieldType.int)) ∈ zW := zW_mem (zt_2 (List.mem_of_getElem? (i := 87) rfl)) rfl
theorem zm2_90 : (Cond.instanceMethod ({ cls := "HourClock$SetWalk", name := "go", desc := "(I)V" } : Jvm.MethodName)) ∈ zW := zW_mem (zt_2 (List.mem_of_getElem? (i := 90) rfl)) rfl
theorem zm2_91 : (Cond.code ({ cls := "HourClock$SetWalk", name := "go", desc := "(I)V" } : Jvm.MethodName) prog_6_method_3_code (5 : Nat) (Option.none : Option Jvm.ClassFile.FieldType)) ∈ zW := zW_mem (zt_2 (List.mem_of_getElem? (i := 91) rfl)) rfl
theorem zm2_92 : (Cond.methodLink "HourClock$SetWalk" (38 : Nat) ({ cls := "java/lang/Integer", name := "numberOfTrailingZeros", desc := "(I)I" } : Jvm.MethodName)) ∈ zW := zW_mem (zt_2 (List.mem_of_getElem? (i := 92) rfl)) rfl
theorem zm2_93 : (Cond.static ({ cls := "java/lang/Integer", name := "numberOfTrailingZeros", desc := "(I)I" } : Jvm.MethodName)) ∈ zW := zW_mem (zt_2 (List.mem_of_getElem? (i := 93) rfl)) rfl
theorem zm2_94 : (Cond.code ({ cls := "java/lang/Integer", name := "numberOfTrailingZeros", desc := "(I)I" } : Jvm.MethodName) prog_14_method_48_code (2 : Nat) (Option.some Jvm.ClassFile.FieldType.int)) ∈ zW := zW_mem (zt_2 (List.mem_of_getElem? (i := 94) rfl)) rfl
theorem zm2_95 : (Cond.constant "java/lang/Integer" (264 : Nat) (65536 : Int32)) ∈ zW := zW_mem (zt_2 (List.mem_of_getElem? (i := 95) rfl)) rfl
theorem zm2_96 : (Cond.methodLink "HourClock$Hour" (145 : Nat) ({ cls := "java/lang/Integer", name := "numberOfTrailingZeros", desc := "(I)I" } : Jvm.MethodName)) ∈ zW := zW_mem (zt_2 (List.mem_of_getElem? (i := 96) rfl)) rfl
theorem zm2_99 : (Cond.instanceMethod ({ cls := "HourClock$Fillers", name := "has", desc := "(I)Z" } : Jvm.MethodName)) ∈ zW := zW_mem (zt_2 (List.mem_of_getElem? (i := 99) rfl)) rfl
theorem zm2_100 : (Cond.code ({ cls := "HourClock$Fillers", name := "has", desc := "(I)Z" } : Jvm.MethodName) prog_3_method_5_code (2 : Nat) (Option.some Jvm.ClassFile.FieldType.boolean)) ∈ zW := zW_mem (zt_2 (List.mem_of_getElem? (i := 100) rfl)) rfl
theorem zm2_101 : (Cond.methodLink "HourClock$Hour" (156 : Nat) ({ cls := "HourClock$Hour", name := "putOnAir", desc := "(III)V" } : Jvm.MethodName)) ∈ zW := zW_mem (zt_2 (List.mem_of_getElem? (i := 101) rfl)) rfl
theorem zm2_103 : (Cond.instanceMethod ({ cls := "HourClock$Hour", name := "putOnAir", desc := "(III)V" } : Jvm.MethodName)) ∈ zW := zW_mem (zt_2 (List.mem_of_getElem? (i := 103) rfl)) rfl
theorem zm2_104 : (Cond.code ({ cls := "HourClock$Hour", name := "putOnAir", desc := "(III)V" } : Jvm.MethodName) prog_4_method_14_code (4 : Nat) (Option.none : Option Jvm.ClassFile.FieldType)) ∈ zW := zW_mem (zt_2 (List.mem_of_getElem? (i := 104) rfl)) rfl
theorem zm2_105 : (Cond.methodLink "HourClock$Hour" (125 : Nat) ({ cls := "HourClock$Hour", name := "beginElement", desc := "(I)V" } : Jvm.MethodName)) ∈ zW := zW_mem (zt_2 (List.mem_of_getElem? (i := 105) rfl)) rfl
theorem zm2_107 : (Cond.instanceMethod ({ cls := "HourClock$Hour", name := "beginElement", desc := "(I)V" } : Jvm.MethodName)) ∈ zW := zW_mem (zt_2 (List.mem_of_getElem? (i := 107) rfl)) rfl
theorem zm2_108 : (Cond.code ({ cls := "HourClock$Hour", name := "beginElement", desc := "(I)V" } : Jvm.MethodName) prog_4_method_13_code (2 : Nat) (Option.none : Option Jvm.ClassFile.FieldType)) ∈ zW := zW_mem (zt_2 (List.mem_of_getElem? (i := 108) rfl)) rfl
theorem zm2_111 : (Cond.instanceMethod ({ cls := "HourClock$Elements", name := "lateness", desc := "(I)I" } : Jvm.MethodName)) ∈ zW := zW_mem (zt_2 (List.mem_of_getElem? (i := 111) rfl)) rfl
theorem zm2_112 : (Cond.code ({ cls := "HourClock$Elements", name := "lateness", desc := "(I)I" } : Jvm.MethodName) prog_2_method_10_code (2 : Nat) (Option.some Jvm.ClassFile.FieldType.int)) ∈ zW := zW_mem (zt_2 (List.mem_of_getElem? (i := 112) rfl)) rfl
theorem zm2_113 : (Cond.methodLink "HourClock$Elements" (45 : Nat) ({ cls := "HourClock$Elements", name := "isFixed", desc := "(I)Z" } : Jvm.MethodName)) ∈ zW := zW_mem (zt_2 (List.mem_of_getElem? (i := 113) rfl)) rfl
theorem zm2_114 : (Cond.methodLink "HourClock$Hour" (163 : Nat) ({ cls := "java/lang/Math", name := "max", desc := "(II)I" } : Jvm.MethodName)) ∈ zW := zW_mem (zt_2 (List.mem_of_getElem? (i := 114) rfl)) rfl
theorem zm2_115 : (Cond.static ({ cls := "java/lang/Math", name := "max", desc := "(II)I" } : Jvm.MethodName)) ∈ zW := zW_mem (zt_2 (List.mem_of_getElem? (i := 115) rfl)) rfl
theorem zm2_116 : (Cond.code ({ cls := "java/lang/Math", name := "max", desc := "(II)I" } : Jvm.MethodName) prog_15_method_65_code (2 : Nat) (Option.some Jvm.ClassFile.FieldType.int)) ∈ zW := zW_mem (zt_2 (List.mem_of_getElem? (i := 116) rfl)) rfl
theorem zm2_117 : (Cond.methodLink "HourClock$Hour" (86 : Nat) ({ cls := "HourClock$Hour", name := "passAir", desc := "(I)V" } : Jvm.MethodName)) ∈ zW := zW_mem (zt_2 (List.mem_of_getElem? (i := 117) rfl)) rfl
theorem zm2_119 : (Cond.instanceMethod ({ cls := "HourClock$Hour", name := "passAir", desc := "(I)V" } : Jvm.MethodName)) ∈ zW := zW_mem (zt_2 (List.mem_of_getElem? (i := 119) rfl)) rfl
theorem zm2_120 : (Cond.code ({ cls := "HourClock$Hour", name := "passAir", desc := "(I)V" } : Jvm.MethodName) prog_4_method_7_code (3 : Nat) (Option.none : Option Jvm.ClassFile.FieldType)) ∈ zW := zW_mem (zt_2 (List.mem_of_getElem? (i := 120) rfl)) rfl
theorem zm2_121 : (Cond.methodLink "HourClock$Hour" (90 : Nat) ({ cls := "java/lang/Math", name := "min", desc := "(II)I" } : Jvm.MethodName)) ∈ zW := zW_mem (zt_2 (List.mem_of_getElem? (i := 121) rfl)) rfl
theorem zm2_122 : (Cond.static ({ cls := "java/lang/Math", name := "min", desc := "(II)I" } : Jvm.MethodName)) ∈ zW := zW_mem (zt_2 (List.mem_of_getElem? (i := 122) rfl)) rfl
theorem zm2_123 : (Cond.code ({ cls := "java/lang/Math", name := "min", desc := "(II)I" } : Jvm.MethodName) prog_15_method_69_code (2 : Nat) (Option.some Jvm.ClassFile.FieldType.int)) ∈ zW := zW_mem (zt_2 (List.mem_of_getElem? (i := 123) rfl)) rfl
theorem zm2_124 : (Cond.methodLink "HourClock$Hour" (96 : Nat) ({ cls := "HourClock$Hour", name := "endAir", desc := "()V" } : Jvm.MethodName)) ∈ zW := zW_mem (zt_2 (List.mem_of_getElem? (i := 124) rfl)) rfl
theorem zm2_126 : (Cond.instanceMethod ({ cls := "HourClock$Hour", name := "endAir", desc := "()V" } : Jvm.MethodName)) ∈ zW := zW_mem (zt_2 (List.mem_of_getElem? (i := 126) rfl)) rfl
theorem zm2_127 : (Cond.code ({ cls := "HourClock$Hour", name := "endAir", desc := "()V" } : Jvm.MethodName) prog_4_method_8_code (1 : Nat) (Option.none : Option Jvm.ClassFile.FieldType)) ∈ zW := zW_mem (zt_2 (List.mem_of_getElem? (i := 127) rfl)) rfl
theorem zm2_128 : (Cond.methodLink "HourClock$Hour" (75 : Nat) ({ cls := "HourClock$Hour", name := "clearAir", desc := "()V" } : Jvm.MethodName)) ∈ zW := zW_mem (zt_2 (List.mem_of_getElem? (i := 128) rfl)) rfl
theorem zm2_130 : (Cond.instanceMethod ({ cls := "HourClock$Hour", name := "clearAir", desc := "()V" } : Jvm.MethodName)) ∈ zW := zW_mem (zt_2 (List.mem_of_getElem? (i := 130) rfl)) rfl
theorem zm2_131 : (Cond.code ({ cls := "HourClock$Hour", name := "clearAir", desc := "()V" } : Jvm.MethodName) prog_4_method_5_code (1 : Nat) (Option.none : Option Jvm.ClassFile.FieldType)) ∈ zW := zW_mem (zt_2 (List.mem_of_getElem? (i := 131) rfl)) rfl
theorem zm2_132 : (Cond.methodLink "HourClockLaw" (120 : Nat) ({ cls := "HourClock", name := "endOfHour", desc := "()I" } : Jvm.MethodName)) ∈ zW := zW_mem (zt_2 (List.mem_of_getElem? (i := 132) rfl)) rfl
theorem zm2_133 : (Cond.instanceMethod ({ cls := "HourClock", name := "endOfHour", desc := "()I" } : Jvm.MethodName)) ∈ zW := zW_mem (zt_2 (List.mem_of_getElem? (i := 133) rfl)) rfl
theorem zm2_134 : (Cond.selects "HourClock" ({ cls := "HourClock", name := "endOfHour", desc := "()I" } : Jvm.MethodName) ({ cls := "HourClock", name := "endOfHour", desc := "()I" } : Jvm.MethodName)) ∈ zW := zW_mem (zt_2 (List.mem_of_getElem? (i := 134) rfl)) rfl
theorem zm2_135 : (Cond.code ({ cls := "HourClock", name := "endOfHour", desc := "()I" } : Jvm.MethodName) prog_1_method_15_code (1 : Nat) (Option.some Jvm.ClassFile.FieldType.int)) ∈ zW := zW_mem (zt_2 (List.mem_of_getElem? (i := 135) rfl)) rfl
theorem zm2_136 : (Cond.methodLink "HourClock" (160 : Nat) ({ cls := "HourClock", name := "foresee", desc := "(I)LHourClock$Hour;" } : Jvm.MethodName)) ∈ zW := zW_mem (zt_2 (List.mem_of_getElem? (i := 136) rfl)) rfl
theorem zm2_138 : (Cond.instanceMethod ({ cls := "HourClock", name := "foresee", desc := "(I)LHourClock$Hour;" } : Jvm.MethodName)) ∈ zW := zW_mem (zt_2 (List.mem_of_getElem? (i := 138) rfl)) rfl
theorem zm2_139 : (Cond.code ({ cls := "HourClock", name := "foresee", desc := "(I)LHourClock$Hour;" } : Jvm.MethodName) prog_1_method_29_code (2 : Nat) (Option.some (Jvm.ClassFile.FieldType.object "HourClock$Hour"))) ∈ zW := zW_mem (zt_2 (List.mem_of_getElem? (i := 139) rfl)) rfl
theorem zm2_142 : (Cond.methodLink "HourClockLaw" (124 : Nat) ({ cls := "HourClock", name := "drops", desc := "()I" } : Jvm.MethodName)) ∈ zW := zW_mem (zt_2 (List.mem_of_getElem? (i := 142) rfl)) rfl
theorem zm2_143 : (Cond.instanceMethod ({ cls := "HourClock", name := "drops", desc := "()I" } : Jvm.MethodName)) ∈ zW := zW_mem (zt_2 (List.mem_of_getElem? (i := 143) rfl)) rfl
theorem zm2_144 : (Cond.selects "HourClock" ({ cls := "HourClock", name := "drops", desc := "()I" } : Jvm.MethodName) ({ cls := "HourClock", name := "drops", desc := "()I" } : Jvm.MethodName)) ∈ zW := zW_mem (zt_2 (List.mem_of_getElem? (i := 144) rfl)) rfl
theorem zm2_145 : (Cond.code ({ cls := "HourClock", name := "drops", desc := "()I" } : Jvm.MethodName) prog_1_method_16_code (4 : Nat) (Option.some Jvm.ClassFile.FieldType.int)) ∈ zW := zW_mem (zt_2 (List.mem_of_getElem? (i := 145) rfl)) rfl
theorem zm2_148 : (Cond.instanceMethod ({ cls := "HourClock$Elements", name := "waits", desc := "(I)Z" } : Jvm.MethodName)) ∈ zW := zW_mem (zt_2 (List.mem_of_getElem? (i := 148) rfl)) rfl
theorem zm2_149 : (Cond.code ({ cls := "HourClock$Elements", name := "waits", desc := "(I)Z" } : Jvm.MethodName) prog_2_method_7_code (2 : Nat) (Option.some Jvm.ClassFile.FieldType.boolean)) ∈ zW := zW_mem (zt_2 (List.mem_of_getElem? (i := 149) rfl)) rfl
theorem zm2_150 : (Cond.methodLink "HourClock$Elements" (41 : Nat) ({ cls := "HourClock$Elements", name := "is", desc := "(II)Z" } : Jvm.MethodName)) ∈ zW := zW_mem (zt_2 (List.mem_of_getElem? (i := 150) rfl)) rfl
theorem zm2_152 : (Cond.instanceMethod ({ cls := "HourClock$Elements", name := "is", desc := "(II)Z" } : Jvm.MethodName)) ∈ zW := zW_mem (zt_2 (List.mem_of_getElem? (i := 152) rfl)) rfl
theorem zm2_153 : (Cond.code ({ cls := "HourClock$Elements", name := "is", desc := "(II)Z" } : Jvm.MethodName) prog_2_method_6_code (3 : Nat) (Option.some Jvm.ClassFile.FieldType.boolean)) ∈ zW := zW_mem (zt_2 (List.mem_of_getElem? (i := 153) rfl)) rfl
theorem zm2_155 : (Cond.methodLink "HourClockLaw" (128 : Nat) ({ cls := "HourClock", name := "silence", desc := "()I" } : Jvm.MethodName)) ∈ zW := zW_mem (zt_2 (List.mem_of_getElem? (i := 155) rfl)) rfl
theorem zm2_156 : (Cond.instanceMethod ({ cls := "HourClock", name := "silence", desc := "()I" } : Jvm.MethodName)) ∈ zW := zW_mem (zt_2 (List.mem_of_getElem? (i := 156) rfl)) rfl
theorem zm2_157 : (Cond.selects "HourClock" ({ cls := "HourClock", name := "silence", desc := "()I" } : Jvm.MethodName) ({ cls := "HourClock", name := "silence", desc := "()I" } : Jvm.MethodName)) ∈ zW := zW_mem (zt_2 (List.mem_of_getElem? (i := 157) rfl)) rfl
theorem zm2_158 : (Cond.code ({ cls := "HourClock", name := "silence", desc := "()I" } : Jvm.MethodName) prog_1_method_17_code (1 : Nat) (Option.some Jvm.ClassFile.FieldType.int)) ∈ zW := zW_mem (zt_2 (List.mem_of_getElem? (i := 158) rfl)) rfl
theorem zm2_159 : (Cond.methodLink "HourClockLaw" (138 : Nat) ({ cls := "HourClock", name := "bestDrop", desc := "()I" } : Jvm.MethodName)) ∈ zW := zW_mem (zt_2 (List.mem_of_getElem? (i := 159) rfl)) rfl
theorem zm2_160 : (Cond.instanceMethod ({ cls := "HourClock", name := "bestDrop", desc := "()I" } : Jvm.MethodName)) ∈ zW := zW_mem (zt_2 (List.mem_of_getElem? (i := 160) rfl)) rfl
theorem zm2_161 : (Cond.selects "HourClock" ({ cls := "HourClock", name := "bestDrop", desc := "()I" } : Jvm.MethodName) ({ cls := "HourClock", name := "bestDrop", desc := "()I" } : Jvm.MethodName)) ∈ zW := zW_mem (zt_2 (List.mem_of_getElem? (i := 161) rfl)) rfl
theorem zm2_162 : (Cond.code ({ cls := "HourClock", name := "bestDrop", desc := "()I" } : Jvm.MethodName) prog_1_method_20_code (5 : Nat) (Option.some Jvm.ClassFile.FieldType.int)) ∈ zW := zW_mem (zt_2 (List.mem_of_getElem? (i := 162) rfl)) rfl
theorem zm2_165 : (Cond.instanceMethod ({ cls := "HourClock$Elements", name := "countThatAre", desc := "(I)I" } : Jvm.MethodName)) ∈ zW := zW_mem (zt_2 (List.mem_of_getElem? (i := 165) rfl)) rfl
theorem zm2_166 : (Cond.code ({ cls := "HourClock$Elements", name := "countThatAre", desc := "(I)I" } : Jvm.MethodName) prog_2_method_11_code (4 : Nat) (Option.some Jvm.ClassFile.FieldType.int)) ∈ zW := zW_mem (zt_2 (List.mem_of_getElem? (i := 166) rfl)) rfl
theorem zm2_167 : (Cond.methodLink "HourClockLaw" (142 : Nat) ({ cls := "HourClock", name := "sounding", desc := "()D" } : Jvm.MethodName)) ∈ zW := zW_mem (zt_2 (List.mem_of_getElem? (i := 167) rfl)) rfl
theorem zm2_168 : (Cond.instanceMethod ({ cls := "HourClock", name := "sounding", desc := "()D" } : Jvm.MethodName)) ∈ zW := zW_mem (zt_2 (List.mem_of_getElem? (i := 168) rfl)) rfl
theorem zm2_169 : (Cond.selects "HourClock" ({ cls := "HourClock", name := "sounding", desc := "()D" } : Jvm.MethodName) ({ cls := "HourClock", name := "sounding", desc := "()D" } : Jvm.MethodName)) ∈ zW := zW_mem (zt_2 (List.mem_of_getElem? (i := 169) rfl)) rfl
theorem zm2_170 : (Cond.code ({ cls := "HourClock", name := "sounding", desc := "()D" } : Jvm.MethodName) prog_1_method_21_code (1 : Nat) (Option.some Jvm.ClassFile.FieldType.double)) ∈ zW := zW_mem (zt_2 (List.mem_of_getElem? (i := 170) rfl)) rfl
theorem zm2_171 : (Cond.methodLink "HourClockLaw" (150 : Nat) ({ cls := "HourClock", name := "clearText", desc := "()I" } : Jvm.MethodName)) ∈ zW := zW_mem (zt_2 (List.mem_of_getElem? (i := 171) rfl)) rfl
theorem zm2_172 : (Cond.instanceMethod ({ cls := "HourClock", name := "clearText", desc := "()I" } : Jvm.MethodName)) ∈ zW := zW_mem (zt_2 (List.mem_of_getElem? (i := 172) rfl)) rfl
theorem zm2_173 : (Cond.selects "HourClock" ({ cls := "HourClock", name := "clearText", desc := "()I" } : Jvm.MethodName) ({ cls := "HourClock", name := "clearText", desc := "()I" } : Jvm.MethodName)) ∈ zW := zW_mem (zt_2 (List.mem_of_getElem? (i := 173) rfl)) rfl
theorem zm2_174 : (Cond.code ({ cls := "HourClock", name := "clearText", desc := "()I" } : Jvm.MethodName) prog_1_method_23_code (2 : Nat) (Option.some Jvm.ClassFile.FieldType.int)) ∈ zW := zW_mem (zt_2 (List.mem_of_getElem? (i := 174) rfl)) rfl
theorem zm2_175 : (Cond.methodLink "HourClockLaw" (154 : Nat) ({ cls := "HourClock", name := "parse", desc := "()I" } : Jvm.MethodName)) ∈ zW := zW_mem (zt_2 (List.mem_of_getElem? (i := 175) rfl)) rfl
theorem zm2_176 : (Cond.instanceMethod ({ cls := "HourClock", name := "parse", desc := "()I" } : Jvm.MethodName)) ∈ zW := zW_mem (zt_2 (List.mem_of_getElem? (i := 176) rfl)) rfl
theorem zm2_177 : (Cond.selects "HourClock" ({ cls := "HourClock", name := "parse", desc := "()I" } : Jvm.MethodName) ({ cls := "HourClock", name := "parse", desc := "()I" } : Jvm.MethodName)) ∈ zW := zW_mem (zt_2 (List.mem_of_getElem? (i := 177) rfl)) rfl
theorem zm2_178 : (Cond.code ({ cls := "HourClock", name := "parse", desc := "()I" } : Jvm.MethodName) prog_1_method_24_code (2 : Nat) (Option.some Jvm.ClassFile.FieldType.int)) ∈ zW := zW_mem (zt_2 (List.mem_of_getElem? (i := 178) rfl)) rfl
theorem zm2_181 : (Cond.instanceMethod ({ cls := "HourClock$Text", name := "readInto", desc := "(LHourClock$Hour;)I" } : Jvm.MethodName)) ∈ zW := zW_mem (zt_2 (List.mem_of_getElem? (i := 181) rfl)) rfl
theorem zm2_182 : (Cond.code ({ cls := "HourClock$Text", name := "readInto", desc := "(LHourClock$Hour;)I" } : Jvm.MethodName) prog_7_method_3_code (3 : Nat) (Option.some Jvm.ClassFile.FieldType.int)) ∈ zW := zW_mem (zt_2 (List.mem_of_getElem? (i := 182) rfl)) rfl
theorem zm2_185 : (Cond.instanceMethod ({ cls := "HourClock$Hour", name := "becomeEmpty", desc := "()V" } : Jvm.MethodName)) ∈ zW := zW_mem (zt_2 (List.mem_of_getElem? (i := 185) rfl)) rfl
theorem zm2_186 : (Cond.code ({ cls := "HourClock$Hour", name := "becomeEmpty", desc := "()V" } : Jvm.MethodName) prog_4_method_4_code (1 : Nat) (Option.none : Option Jvm.ClassFile.FieldType)) ∈ zW := zW_mem (zt_2 (List.mem_of_getElem? (i := 186) rfl)) rfl
theorem zm2_187 : (Cond.methodLink "HourClock$Hour" (80 : Nat) ({ cls := "HourClock$Hour", name := "beginAnew", desc := "()V" } : Jvm.MethodName)) ∈ zW := zW_mem (zt_2 (List.mem_of_getElem? (i := 187) rfl)) rfl
theorem zm2_189 : (Cond.instanceMethod ({ cls := "HourClock$Hour", name := "beginAnew", desc := "()V" } : Jvm.MethodName)) ∈ zW := zW_mem (zt_2 (List.mem_of_getElem? (i := 189) rfl)) rfl
theorem zm2_190 : (Cond.code ({ cls := "HourClock$Hour", name := "beginAnew", desc := "()V" } : Jvm.MethodName) prog_4_method_3_code (1 : Nat) (Option.none : Option Jvm.ClassFile.FieldType)) ∈ zW := zW_mem (zt_2 (List.mem_of_getElem? (i := 190) rfl)) rfl
theorem zm2_193 : (Cond.instanceMethod ({ cls := "HourClock$Elements", name := "allWait", desc := "()V" } : Jvm.MethodName)) ∈ zW := zW_mem (zt_2 (List.mem_of_getElem? (i := 193) rfl)) rfl
theorem zm2_194 : (Cond.code ({ cls := "HourClock$Elements", name := "allWait", desc := "()V" } : Jvm.MethodName) prog_2_method_4_code (2 : Nat) (Option.none : Option Jvm.ClassFile.FieldType)) ∈ zW := zW_mem (zt_2 (List.mem_of_getElem? (i := 194) rfl)) rfl
theorem zm2_197 : (Cond.instanceMethod ({ cls := "HourClock$Fillers", name := "allWait", desc := "()V" } : Jvm.MethodName)) ∈ zW := zW_mem (zt_2 (List.mem_of_getElem? (i := 197) rfl)) rfl
theorem zm2_198 : (Cond.code ({ cls := "HourClock$Fillers", name := "allWait", desc := "()V" } : Jvm.MethodName) prog_3_method_4_code (2 : Nat) (Option.none : Option Jvm.ClassFile.FieldType)) ∈ zW := zW_mem (zt_2 (List.mem_of_getElem? (i := 198) rfl)) rfl
theorem zm2_199 : (Cond.methodLink "HourClock$Text" (30 : Nat) ({ cls := "HourClock$Text", name := "readItem", desc := "(LHourClock$Hour;)V" } : Jvm.MethodName)) ∈ zW := zW_mem (zt_2 (List.mem_of_getElem? (i := 199) rfl)) rfl
theorem zm2_201 : (Cond.instanceMethod ({ cls := "HourClock$Text", name := "readItem", desc := "(LHourClock$Hour;)V" } : Jvm.MethodName)) ∈ zW := zW_mem (zt_2 (List.mem_of_getElem? (i := 201) rfl)) rfl
theorem zm2_202 : (Cond.code ({ cls := "HourClock$Text", name := "readItem", desc := "(LHourClock$Hour;)V" } : Jvm.MethodName) prog_7_method_4_code (2 : Nat) (Option.none : Option Jvm.ClassFile.FieldType)) ∈ zW := zW_mem (zt_2 (List.mem_of_getElem? (i := 202) rfl)) rfl
theorem zm2_203 : (Cond.methodLink "HourClock$Text" (34 : Nat) ({ cls := "HourClock$Text", name := "here", desc := "()I" } : Jvm.MethodName)) ∈ zW := zW_mem (zt_2 (List.mem_of_getElem? (i := 203) rfl)) rfl
theorem zm2_205 : (Cond.instanceMethod ({ cls := "HourClock$Text", name := "here", desc := "()I" } : Jvm.MethodName)) ∈ zW := zW_mem (zt_2 (List.mem_of_getElem? (i := 205) rfl)) rfl
theorem zm2_206 : (Cond.code ({ cls := "HourClock$Text", name := "here", desc := "()I" } : Jvm.MethodName) prog_7_method_11_code (1 : Nat) (Option.some Jvm.ClassFile.FieldType.int)) ∈ zW := zW_mem (zt_2 (List.mem_of_getElem? (i := 206) rfl)) rfl
theorem zm2_207 : (Cond.methodLink "HourClock$Text" (38 : Nat) ({ cls := "HourClock$Text", name := "isDigit", desc := "(I)Z" } : Jvm.MethodName)) ∈ zW := zW_mem (zt_2 (List.mem_of_getElem? (i := 207) rfl)) rfl
theorem zm2_209 : (Cond.instanceMethod ({ cls := "HourClock$Text", name := "isDigit", desc := "(I)Z" } : Jvm.MethodName)) ∈ zW := zW_mem (zt_2 (List.mem_of_getElem? (i := 209) rfl)) rfl
theorem zm2_210 : (Cond.code ({ cls := "HourClock$Text", name := "isDigit", desc := "(I)Z" } : Jvm.MethodName) prog_7_method_12_code (2 : Nat) (Option.some Jvm.ClassFile.FieldType.boolean)) ∈ zW := zW_mem (zt_2 (List.mem_of_getElem? (i := 210) rfl)) rfl
theorem zm2_211 : (Cond.methodLink "HourClock$Text" (51 : Nat) ({ cls := "HourClock$Text", name := "readElement", desc := "(LHourClock$Elements;)V" } : Jvm.MethodName)) ∈ zW := zW_mem (zt_2 (List.mem_of_getElem? (i := 211) rfl)) rfl
theorem zm2_213 : (Cond.instanceMethod ({ cls := "HourClock$Text", name := "readElement", desc := "(LHourClock$Elements;)V" } : Jvm.MethodName)) ∈ zW := zW_mem (zt_2 (List.mem_of_getElem? (i := 213) rfl)) rfl
theorem zm2_214 : (Cond.code ({ cls := "HourClock$Text", name := "readElement", desc := "(LHourClock$Elements;)V" } : Jvm.MethodName) prog_7_method_5_code (5 : Nat) (Option.none : Option Jvm.ClassFile.FieldType)) ∈ zW := zW_mem (zt_2 (List.mem_of_getElem? (i := 214) rfl)) rfl
theorem zm2_215 : (Cond.methodLink "HourClock$Text" (74 : Nat) ({ cls := "HourClock$Text", name := "readNumber", desc := "(III)I" } : Jvm.MethodName)) ∈ zW := zW_mem (zt_2 (List.mem_of_getElem? (i := 215) rfl)) rfl
theorem zm2_217 : (Cond.instanceMethod ({ cls := "HourClock$Text", name := "readNumber", desc := "(III)I" } : Jvm.MethodName)) ∈ zW := zW_mem (zt_2 (List.mem_of_getElem? (i := 217) rfl)) rfl
theorem zm2_218 : (Cond.code ({ cls := "HourClock$Text", name := "readNumber", desc := "(III)I" } : Jvm.MethodName) prog_7_method_7_code (7 : Nat) (Option.some Jvm.ClassFile.FieldType.int)) ∈ zW := zW_mem (zt_2 (List.mem_of_getElem? (i := 218) rfl)) rfl
theorem zm2_219 : (Cond.methodLink "HourClock$Text" (70 : Nat) ({ cls := "HourClock$Text", name := "fail", desc := "(I)V" } : Jvm.MethodName)) ∈ zW := zW_mem (zt_2 (List.mem_of_getElem? (i := 219) rfl)) rfl
theorem zm2_221 : (Cond.instanceMethod ({ cls := "HourClock$Text", name := "fail", desc := "(I)V" } : Jvm.MethodName)) ∈ zW := zW_mem (zt_2 (List.mem_of_getElem? (i := 221) rfl)) rfl
theorem zm2_222 : (Cond.code ({ cls := "HourClock$Text", name := "fail", desc := "(I)V" } : Jvm.MethodName) prog_7_method_10_code (2 : Nat) (Option.none : Option Jvm.ClassFile.FieldType)) ∈ zW := zW_mem (zt_2 (List.mem_of_getElem? (i := 222) rfl)) rfl
theorem zm2_223 : (Cond.methodLink "HourClock$Text" (62 : Nat) ({ cls := "HourClock$Text", name := "take", desc := "(C)Z" } : Jvm.MethodName)) ∈ zW := zW_mem (zt_2 (List.mem_of_getElem? (i := 223) rfl)) rfl
theorem zm2_225 : (Cond.instanceMethod ({ cls := "HourClock$Text", name := "take", desc := "(C)Z" } : Jvm.MethodName)) ∈ zW := zW_mem (zt_2 (List.mem_of_getElem? (i := 225) rfl)) rfl
theorem zm2_226 : (Cond.code ({ cls := "HourClock$Text", name := "take", desc := "(C)Z" } : Jvm.MethodName) prog_7_method_9_code (3 : Nat) (Option.some Jvm.ClassFile.FieldType.boolean)) ∈ zW := zW_mem (zt_2 (List.mem_of_getElem? (i := 226) rfl)) rfl
theorem zm2_227 : (Cond.methodLink "HourClock$Text" (78 : Nat) ({ cls := "HourClock$Text", name := "takeSemicolon", desc := "()Z" } : Jvm.MethodName)) ∈ zW := zW_mem (zt_2 (List.mem_of_getElem? (i := 227) rfl)) rfl
theorem zm2_229 : (Cond.instanceMethod ({ cls := "HourClock$Text", name := "takeSemicolon", desc := "()Z" } : Jvm.MethodName)) ∈ zW := zW_mem (zt_2 (List.mem_of_getElem? (i := 229) rfl)) rfl
theorem zm2_230 : (Cond.code ({ cls := "HourClock$Text", name := "takeSemicolon", desc := "()Z" } : Jvm.MethodName) prog_7_method_8_code (2 : Nat) (Option.some Jvm.ClassFile.FieldType.boolean)) ∈ zW := zW_mem (zt_2 (List.mem_of_getElem? (i := 230) rfl)) rfl
theorem zm2_233 : (Cond.instanceMethod ({ cls := "HourClock$Elements", name := "add", desc := "(III)V" } : Jvm.MethodName)) ∈ zW := zW_mem (zt_2 (List.mem_of_getElem? (i := 233) rfl)) rfl
theorem zm2_234 : (Cond.code ({ cls := "HourClock$Elements", name := "add", desc := "(III)V" } : Jvm.MethodName) prog_2_method_3_code (4 : Nat) (Option.none : Option Jvm.ClassFile.FieldType)) ∈ zW := zW_mem (zt_2 (List.mem_of_getElem? (i := 234) rfl)) rfl
theorem zm2_235 : (Cond.methodLink "HourClock$Text" (66 : Nat) ({ cls := "HourClock$Text", name := "readFiller", desc := "(LHourClock$Fillers;)V" } : Jvm.MethodName)) ∈ zW := zW_mem (zt_2 (List.mem_of_getElem? (i := 235) rfl)) rfl
theorem zm2_237 : (Cond.instanceMethod ({ cls := "HourClock$Text", name := "readFiller", desc := "(LHourClock$Fillers;)V" } : Jvm.MethodName)) ∈ zW := zW_mem (zt_2 (List.mem_of_getElem? (i := 237) rfl)) rfl
theorem zm2_238 : (Cond.code ({ cls := "HourClock$Text", name := "readFiller", desc := "(LHourClock$Fillers;)V" } : Jvm.MethodName) prog_7_method_6_code (3 : Nat) (Option.none : Option Jvm.ClassFile.FieldType)) ∈ zW := zW_mem (zt_2 (List.mem_of_getElem? (i := 238) rfl)) rfl
theorem zm3_1 : (Cond.instanceMethod ({ cls := "HourClock$Fillers", name := "add", desc := "(I)V" } : Jvm.MethodName)) ∈ zW := zW_mem (zt_3 (List.mem_of_getElem? (i := 1) rfl)) rfl
theorem zm3_2 : (Cond.code ({ cls := "HourClock$Fillers", name := "add", desc := "(I)V" } : Jvm.MethodName) prog_3_method_3_code (2 : Nat) (Option.none : Option Jvm.ClassFile.FieldType)) ∈ zW := zW_mem (zt_3 (List.mem_of_getElem? (i := 2) rfl)) rfl
theorem zm3_3 : (Cond.methodLink "HourClockLaw" (161 : Nat) ({ cls := "HourClock", name := "digest", desc := "()J" } : Jvm.MethodName)) ∈ zW := zW_mem (zt_3 (List.mem_of_getElem? (i := 3) rfl)) rfl
theorem zm3_4 : (Cond.instanceMethod ({ cls := "HourClock", name := "digest", desc := "()J" } : Jvm.MethodName)) ∈ zW := zW_mem (zt_3 (List.mem_of_getElem? (i := 4) rfl)) rfl
theorem zm3_5 : (Cond.selects "HourClock" ({ cls := "HourClock", name := "digest", desc := "()J" } : Jvm.MethodName) ({ cls := "HourClock", name := "digest", desc := "()J" } : Jvm.MethodName)) ∈ zW := zW_mem (zt_3 (List.mem_of_getElem? (i := 5) rfl)) rfl
theorem zm3_6 : (Cond.code ({ cls := "HourClock", name := "digest", desc := "()J" } : Jvm.MethodName) prog_1_method_26_code (6 : Nat) (Option.some Jvm.ClassFile.FieldType.long)) ∈ zW := zW_mem (zt_3 (List.mem_of_getElem? (i := 6) rfl)) rfl
theorem zm3_7 : (Cond.constantLong "HourClock" (202 : Nat) (3559 : Int64)) ∈ zW := zW_mem (zt_3 (List.mem_of_getElem? (i := 7) rfl)) rfl
theorem zm3_8 : (Cond.constantLong "HourClock" (204 : Nat) (31 : Int64)) ∈ zW := zW_mem (zt_3 (List.mem_of_getElem? (i := 8) rfl)) rfl
theorem zm3_11 : (Cond.instanceMethod ({ cls := "HourClock$Hour", name := "tell", desc := "(I)I" } : Jvm.MethodName)) ∈ zW := zW_mem (zt_3 (List.mem_of_getElem? (i := 11) rfl)) rfl
theorem zm3_12 : (Cond.code ({ cls := "HourClock$Hour", name := "tell", desc := "(I)I" } : Jvm.MethodName) prog_4_method_17_code (2 : Nat) (Option.some Jvm.ClassFile.FieldType.int)) ∈ zW := zW_mem (zt_3 (List.mem_of_getElem? (i := 12) rfl)) rfl
theorem zm3_16 : (Cond.instanceMethod ({ cls := "HourClock$Fillers", name := "countThatWait", desc := "()I" } : Jvm.MethodName)) ∈ zW := zW_mem (zt_3 (List.mem_of_getElem? (i := 16) rfl)) rfl
theorem zm3_17 : (Cond.code ({ cls := "HourClock$Fillers", name := "countThatWait", desc := "()I" } : Jvm.MethodName) prog_3_method_6_code (3 : Nat) (Option.some Jvm.ClassFile.FieldType.int)) ∈ zW := zW_mem (zt_3 (List.mem_of_getElem? (i := 17) rfl)) rfl
theorem zm3_20 : (Cond.instanceMethod ({ cls := "HourClock$Elements", name := "tell", desc := "(II)I" } : Jvm.MethodName)) ∈ zW := zW_mem (zt_3 (List.mem_of_getElem? (i := 20) rfl)) rfl
theorem zm3_21 : (Cond.code ({ cls := "HourClock$Elements", name := "tell", desc := "(II)I" } : Jvm.MethodName) prog_2_method_21_code (3 : Nat) (Option.some Jvm.ClassFile.FieldType.int)) ∈ zW := zW_mem (zt_3 (List.mem_of_getElem? (i := 21) rfl)) rfl
theorem zm3_22 : (Cond.methodLink "HourClock$Elements" (62 : Nat) ({ cls := "HourClock$Elements", name := "lateness", desc := "(I)I" } : Jvm.MethodName)) ∈ zW := zW_mem (zt_3 (List.mem_of_getElem? (i := 22) rfl)) rfl
theorem zm3_23 : (Cond.methodLink "HourClock$Elements" (65 : Nat) ({ cls := "HourClock$Elements", name := "inSection", desc := "(I)Z" } : Jvm.MethodName)) ∈ zW := zW_mem (zt_3 (List.mem_of_getElem? (i := 23) rfl)) rfl
theorem zm3_25 : (Cond.instanceMethod ({ cls := "HourClock$Elements", name := "inSection", desc := "(I)Z" } : Jvm.MethodName)) ∈ zW := zW_mem (zt_3 (List.mem_of_getElem? (i := 25) rfl)) rfl
theorem zm3_26 : (Cond.code ({ cls := "HourClock$Elements", name := "inSection", desc := "(I)Z" } : Jvm.MethodName) prog_2_method_15_code (2 : Nat) (Option.some Jvm.ClassFile.FieldType.boolean)) ∈ zW := zW_mem (zt_3 (List.mem_of_getElem? (i := 26) rfl)) rfl
theorem zm3_27 : (Cond.methodLink "HourClock$Elements" (55 : Nat) ({ cls := "HourClock$Elements", name := "waits", desc := "(I)Z" } : Jvm.MethodName)) ∈ zW := zW_mem (zt_3 (List.mem_of_getElem? (i := 27) rfl)) rfl
theorem zm3_30 : (Cond.instanceMethod ({ cls := "HourClock$Elements", name := "latestBegin", desc := "(I)I" } : Jvm.MethodName)) ∈ zW := zW_mem (zt_3 (List.mem_of_getElem? (i := 30) rfl)) rfl
theorem zm3_31 : (Cond.code ({ cls := "HourClock$Elements", name := "latestBegin", desc := "(I)I" } : Jvm.MethodName) prog_2_method_20_code (3 : Nat) (Option.some Jvm.ClassFile.FieldType.int)) ∈ zW := zW_mem (zt_3 (List.mem_of_getElem? (i := 31) rfl)) rfl
theorem zm3_34 : (Cond.instanceMethod ({ cls := "HourClock$Elements", name := "begunAt", desc := "(I)I" } : Jvm.MethodName)) ∈ zW := zW_mem (zt_3 (List.mem_of_getElem? (i := 34) rfl)) rfl
theorem zm3_35 : (Cond.code ({ cls := "HourClock$Elements", name := "begunAt", desc := "(I)I" } : Jvm.MethodName) prog_2_method_9_code (2 : Nat) (Option.some Jvm.ClassFile.FieldType.int)) ∈ zW := zW_mem (zt_3 (List.mem_of_getElem? (i := 35) rfl)) rfl
theorem zm3_38 : (Cond.instanceMethod ({ cls := "HourClock$Fillers", name := "tell", desc := "(II)I" } : Jvm.MethodName)) ∈ zW := zW_mem (zt_3 (List.mem_of_getElem? (i := 38) rfl)) rfl
theorem zm3_39 : (Cond.code ({ cls := "HourClock$Fillers", name := "tell", desc := "(II)I" } : Jvm.MethodName) prog_3_method_9_code (3 : Nat) (Option.some Jvm.ClassFile.FieldType.int)) ∈ zW := zW_mem (zt_3 (List.mem_of_getElem? (i := 39) rfl)) rfl
theorem zm3_40 : (Cond.methodLink "HourClock$Fillers" (55 : Nat) ({ cls := "HourClock$Fillers", name := "has", desc := "(I)Z" } : Jvm.MethodName)) ∈ zW := zW_mem (zt_3 (List.mem_of_getElem? (i := 40) rfl)) rfl
theorem zm3_43 : (Cond.instanceMethod ({ cls := "HourClock$Log", name := "tell", desc := "(II)I" } : Jvm.MethodName)) ∈ zW := zW_mem (zt_3 (List.mem_of_getElem? (i := 43) rfl)) rfl
theorem zm3_44 : (Cond.code ({ cls := "HourClock$Log", name := "tell", desc := "(II)I" } : Jvm.MethodName) prog_5_method_5_code (3 : Nat) (Option.some Jvm.ClassFile.FieldType.int)) ∈ zW := zW_mem (zt_3 (List.mem_of_getElem? (i := 44) rfl)) rfl
theorem zm3_45 : (Cond.methodLink "HourClock$Log" (31 : Nat) ({ cls := "HourClock$Log", name := "has", desc := "(I)Z" } : Jvm.MethodName)) ∈ zW := zW_mem (zt_3 (List.mem_of_getElem? (i := 45) rfl)) rfl
theorem zm3_47 : (Cond.instanceMethod ({ cls := "HourClock$Log", name := "has", desc := "(I)Z" } : Jvm.MethodName)) ∈ zW := zW_mem (zt_3 (List.mem_of_getElem? (i := 47) rfl)) rfl
theorem zm3_48 : (Cond.code ({ cls := "HourClock$Log", name := "has", desc := "(I)Z" } : Jvm.MethodName) prog_5_method_4_code (2 : Nat) (Option.some Jvm.ClassFile.FieldType.boolean)) ∈ zW := zW_mem (zt_3 (List.mem_of_getElem? (i := 48) rfl)) rfl
theorem zm3_49 : (Cond.methodLink "HourClockLaw" (71 : Nat) ({ cls := "HourClockLaw", name := "addElement", desc := "(LHourClock;III[J)I" } : Jvm.MethodName)) ∈ zW := zW_mem (zt_3 (List.mem_of_getElem? (i := 49) rfl)) rfl
theorem zm3_50 : (Cond.static ({ cls := "HourClockLaw", name := "addElement", desc := "(LHourClock;III[J)I" } : Jvm.MethodName)) ∈ zW := zW_mem (zt_3 (List.mem_of_getElem? (i := 50) rfl)) rfl
theorem zm3_52 : (Cond.classLink "HourClockLaw" (13 : Nat) "java/lang/IllegalArgumentException") ∈ zW := zW_mem (zt_3 (List.mem_of_getElem? (i := 52) rfl)) rfl
theorem zm3_53 : (Cond.classLink "HourClockLaw" (15 : Nat) "java/lang/IllegalStateException") ∈ zW := zW_mem (zt_3 (List.mem_of_getElem? (i := 53) rfl)) rfl
theorem zm3_54 : (Cond.methodLink "HourClockLaw" (7 : Nat) ({ cls := "HourClock", name := "addElement", desc := "(III)I" } : Jvm.MethodName)) ∈ zW := zW_mem (zt_3 (List.mem_of_getElem? (i := 54) rfl)) rfl
theorem zm3_55 : (Cond.instanceMethod ({ cls := "HourClock", name := "addElement", desc := "(III)I" } : Jvm.MethodName)) ∈ zW := zW_mem (zt_3 (List.mem_of_getElem? (i := 55) rfl)) rfl
theorem zm3_56 : (Cond.selects "HourClock" ({ cls := "HourClock", name := "addElement", desc := "(III)I" } : Jvm.MethodName) ({ cls := "HourClock", name := "addElement", desc := "(III)I" } : Jvm.MethodName)) ∈ zW := zW_mem (zt_3 (List.mem_of_getElem? (i := 56) rfl)) rfl
theorem zm3_57 : (Cond.code ({ cls := "HourClock", name := "addElement", desc := "(III)I" } : Jvm.MethodName) prog_1_method_2_code (4 : Nat) (Option.some Jvm.ClassFile.FieldType.int)) ∈ zW := zW_mem (zt_3 (List.mem_of_getElem? (i := 57) rfl)) rfl
theorem zm3_58 : (Cond.classLink "HourClock" (34 : Nat) "java/lang/IllegalArgumentException") ∈ zW := zW_mem (zt_3 (List.mem_of_getElem? (i := 58) rfl)) rfl
theorem zm3_59 : (Cond.instantiable "java/lang/IllegalArgumentException" (6 : Nat)) ∈ zW := zW_mem (zt_3 (List.mem_of_getElem? (i := 59) rfl)) rfl
theorem zm3_67 : (Cond.selects "java/lang/IllegalArgumentException" ({ cls := "java/lang/Throwable", name := "fillInStackTrace", desc := "(I)Ljava/lang/Throwable;" } : Jvm.MethodName) ({ cls := "java/lang/Throwable", name := "fillInStackTrace", desc := "(I)Ljava/lang/Throwable;" } : Jvm.MethodName)) ∈ zW := zW_mem (zt_3 (List.mem_of_getElem? (i := 67) rfl)) rfl
theorem zm3_68 : (Cond.selects "java/lang/IllegalArgumentException" ({ cls := "java/lang/Throwable", name := "fillInStackTrace", desc := "()Ljava/lang/Throwable;" } : Jvm.MethodName) ({ cls := "java/lang/Throwable", name := "fillInStackTrace", desc := "()Ljava/lang/Throwable;" } : Jvm.MethodName)) ∈ zW := zW_mem (zt_3 (List.mem_of_getElem? (i := 68) rfl)) rfl
theorem zm3_69 : (Cond.lays "java/lang/IllegalArgumentException" "java/lang/Throwable" "cause" "Ljava/lang/Throwable;") ∈ zW := zW_mem (zt_3 (List.mem_of_getElem? (i := 69) rfl)) rfl
theorem zm3_70 : (Cond.lays "java/lang/Throwable" "java/lang/Throwable" "cause" "Ljava/lang/Throwable;") ∈ zW := zW_mem (zt_3 (List.mem_of_getElem? (i := 70) rfl)) rfl
theorem zm3_71 : (Cond.lays "java/lang/IllegalArgumentException" "java/lang/Throwable" "stackTrace" "[Ljava/lang/StackTraceElement;") ∈ zW := zW_mem (zt_3 (List.mem_of_getElem? (i := 71) rfl)) rfl
theorem zm3_72 : (Cond.lays "java/lang/Throwable" "java/lang/Throwable" "stackTrace" "[Ljava/lang/StackTraceElement;") ∈ zW := zW_mem (zt_3 (List.mem_of_getElem? (i := 72) rfl)) rfl
theorem zm3_73 : (Cond.lays "java/lang/IllegalArgumentException" "java/lang/Throwable" "suppressedExceptions" "Ljava/util/List;") ∈ zW := zW_mem (zt_3 (List.mem_of_getElem? (i := 73) rfl)) rfl
theorem zm3_74 : (Cond.lays "java/lang/Throwable" "java/lang/Throwable" "suppressedExceptions" "Ljava/util/List;") ∈ zW := zW_mem (zt_3 (List.mem_of_getElem? (i := 74) rfl)) rfl
theorem zm3_75 : (Cond.lays "java/lang/IllegalArgumentException" "java/lang/Throwable" "detailMessage" "Ljava/lang/String;") ∈ zW := zW_mem (zt_3 (List.mem_of_getElem? (i := 75) rfl)) rfl
theorem zm3_76 : (Cond.lays "java/lang/Throwable" "java/lang/Throwable" "detailMessage" "Ljava/lang/String;") ∈ zW := zW_mem (zt_3 (List.mem_of_getElem? (i := 76) rfl)) rfl
theorem zm3_77 : (Cond.lays "java/lang/IllegalArgumentException" "java/lang/Throwable" "backtrace" "Ljava/lang/Object;") ∈ zW := zW_mem (zt_3 (List.mem_of_getElem? (i := 77) rfl)) rfl
theorem zm3_78 : (Cond.lays "java/lang/Throwable" "java/lang/Throwable" "backtrace" "Ljava/lang/Object;") ∈ zW := zW_mem (zt_3 (List.mem_of_getElem? (i := 78) rfl)) rfl
theorem zm3_79 : (Cond.fieldLink "java/lang/Throwable" (198 : Nat) "java/lang/Throwable" "backtrace" "Ljava/lang/Object;") ∈ zW := zW_mem (zt_3 (List.mem_of_getElem? (i := 79) rfl)) rfl
theorem zm3_81 : (Cond.instanceMethod ({ cls := "java/lang/Throwable", name := "<init>", desc := "()V" } : Jvm.MethodName)) ∈ zW := zW_mem (zt_3 (List.mem_of_getElem? (i := 81) rfl)) rfl
theorem zm3_82 : (Cond.code ({ cls := "java/lang/Throwable", name := "<init>", desc := "()V" } : Jvm.MethodName) prog_19_method_1_code (1 : Nat) (Option.none : Option Jvm.ClassFile.FieldType)) ∈ zW := zW_mem (zt_3 (List.mem_of_getElem? (i := 82) rfl)) rfl
theorem zm3_83 : (Cond.methodLink "java/lang/Throwable" (1 : Nat) ({ cls := "java/lang/Object", name := "<init>", desc := "()V" } : Jvm.MethodName)) ∈ zW := zW_mem (zt_3 (List.mem_of_getElem? (i := 83) rfl)) rfl
theorem zm3_84 : (Cond.fieldLink "java/lang/Throwable" (13 : Nat) "java/lang/Throwable" "UNASSIGNED_STACK" "[Ljava/lang/StackTraceElement;") ∈ zW := zW_mem (zt_3 (List.mem_of_getElem? (i := 84) rfl)) rfl
theorem zm3_86 : (Cond.fieldLink "java/lang/Throwable" (20 : Nat) "java/lang/Throwable" "SUPPRESSED_SENTINEL" "Ljava/util/List;") ∈ zW := zW_mem (zt_3 (List.mem_of_getElem? (i := 86) rfl)) rfl
theorem zm3_88 : (Cond.methodLink "java/lang/Throwable" (27 : Nat) ({ cls := "java/lang/Throwable", name := "fillInStackTrace", desc := "()Ljava/lang/Throwable;" } : Jvm.MethodName)) ∈ zW := zW_mem (zt_3 (List.mem_of_getElem? (i := 88) rfl)) rfl
theorem zm3_89 : (Cond.instanceMethod ({ cls := "java/lang/Throwable", name := "fillInStackTrace", desc := "()Ljava/lang/Throwable;" } : Jvm.MethodName)) ∈ zW := zW_mem (zt_3 (List.mem_of_getElem? (i := 89) rfl)) rfl
theorem zm3_91 : (Cond.selects "java/lang/IllegalStateException" ({ cls := "java/lang/Throwable", name := "fillInStackTrace", desc := "()Ljava/lang/Throwable;" } : Jvm.MethodName) ({ cls := "java/lang/Throwable", name := "fillInStackTrace", desc := "()Ljava/lang/Throwable;" } : Jvm.MethodName)) ∈ zW := zW_mem (zt_3 (List.mem_of_getElem? (i := 91) rfl)) rfl
theorem zm3_92 : (Cond.selects "java/lang/IndexOutOfBoundsException" ({ cls := "java/lang/Throwable", name := "fillInStackTrace", desc := "()Ljava/lang/Throwable;" } : Jvm.MethodName) ({ cls := "java/lang/Throwable", name := "fillInStackTrace", desc := "()Ljava/lang/Throwable;" } : Jvm.MethodName)) ∈ zW := zW_mem (zt_3 (List.mem_of_getElem? (i := 92) rfl)) rfl
theorem zm3_94 : (Cond.methodLink "java/lang/Throwable" (202 : Nat) ({ cls := "java/lang/Throwable", name := "fillInStackTrace", desc := "(I)Ljava/lang/Throwable;" } : Jvm.MethodName)) ∈ zW := zW_mem (zt_3 (List.mem_of_getElem? (i := 94) rfl)) rfl
theorem zm3_96 : (Cond.instanceMethod ({ cls := "java/lang/Throwable", name := "fillInStackTrace", desc := "(I)Ljava/lang/Throwable;" } : Jvm.MethodName)) ∈ zW := zW_mem (zt_3 (List.mem_of_getElem? (i := 96) rfl)) rfl
theorem zm3_97 : (Cond.instantiable "java/lang/Throwable" (6 : Nat)) ∈ zW := zW_mem (zt_3 (List.mem_of_getElem? (i := 97) rfl)) rfl
theorem zm3_98 : (Cond.native ({ cls := "java/lang/Throwable", name := "fillInStackTrace", desc := "(I)Ljava/lang/Throwable;" } : Jvm.MethodName)) ∈ zW := zW_mem (zt_3 (List.mem_of_getElem? (i := 98) rfl)) rfl
theorem zm3_100 : (Cond.methodLink "HourClock" (38 : Nat) ({ cls := "java/lang/IllegalArgumentException", name := "<init>", desc := "(Ljava/lang/String;)V" } : Jvm.MethodName)) ∈ zW := zW_mem (zt_3 (List.mem_of_getElem? (i := 100) rfl)) rfl
theorem zm3_101 : (Cond.instanceMethod ({ cls := "java/lang/IllegalArgumentException", name := "<init>", desc := "(Ljava/lang/String;)V" } : Jvm.MethodName)) ∈ zW := zW_mem (zt_3 (List.mem_of_getElem? (i := 101) rfl)) rfl
theorem zm3_102 : (Cond.code ({ cls := "java/lang/IllegalArgumentException", name := "<init>", desc := "(Ljava/lang/String;)V" } : Jvm.MethodName) prog_11_method_2_code (2 : Nat) (Option.none : Option Jvm.ClassFile.FieldType)) ∈ zW := zW_mem (zt_3 (List.mem_of_getElem? (i := 102) rfl)) rfl
theorem zm3_103 : (Cond.methodLink "java/lang/IllegalArgumentException" (7 : Nat) ({ cls := "java/lang/RuntimeException", name := "<init>", desc := "(Ljava/lang/String;)V" } : Jvm.MethodName)) ∈ zW := zW_mem (zt_3 (List.mem_of_getElem? (i := 103) rfl)) rfl
theorem zm3_104 : (Cond.instanceMethod ({ cls := "java/lang/RuntimeException", name := "<init>", desc := "(Ljava/lang/String;)V" } : Jvm.MethodName)) ∈ zW := zW_mem (zt_3 (List.mem_of_getElem? (i := 104) rfl)) rfl
theorem zm3_105 : (Cond.code ({ cls := "java/lang/RuntimeException", name := "<init>", desc := "(Ljava/lang/String;)V" } : Jvm.MethodName) prog_16_method_2_code (2 : Nat) (Option.none : Option Jvm.ClassFile.FieldType)) ∈ zW := zW_mem (zt_3 (List.mem_of_getElem? (i := 105) rfl)) rfl
theorem zm3_106 : (Cond.methodLink "java/lang/RuntimeException" (7 : Nat) ({ cls := "java/lang/Exception", name := "<init>", desc := "(Ljava/lang/String;)V" } : Jvm.MethodName)) ∈ zW := zW_mem (zt_3 (List.mem_of_getElem? (i := 106) rfl)) rfl
theorem zm3_107 : (Cond.instanceMethod ({ cls := "java/lang/Exception", name := "<init>", desc := "(Ljava/lang/String;)V" } : Jvm.MethodName)) ∈ zW := zW_mem (zt_3 (List.mem_of_getElem? (i := 107) rfl)) rfl
theorem zm3_108 : (Cond.code ({ cls := "java/lang/Exception", name := "<init>", desc := "(Ljava/lang/String;)V" } : Jvm.MethodName) prog_10_method_2_code (2 : Nat) (Option.none : Option Jvm.ClassFile.FieldType)) ∈ zW := zW_mem (zt_3 (List.mem_of_getElem? (i := 108) rfl)) rfl
theorem zm3_109 : (Cond.methodLink "java/lang/Exception" (7 : Nat) ({ cls := "java/lang/Throwable", name := "<init>", desc := "(Ljava/lang/String;)V" } : Jvm.MethodName)) ∈ zW := zW_mem (zt_3 (List.mem_of_getElem? (i := 109) rfl)) rfl
theorem zm3_110 : (Cond.instanceMethod ({ cls := "java/lang/Throwable", name := "<init>", desc := "(Ljava/lang/String;)V" } : Jvm.MethodName)) ∈ zW := zW_mem (zt_3 (List.mem_of_getElem? (i := 110) rfl)) rfl
theorem zm3_111 : (Cond.code ({ cls := "java/lang/Throwable", name := "<init>", desc := "(Ljava/lang/String;)V" } : Jvm.MethodName) prog_19_method_2_code (2 : Nat) (Option.none : Option Jvm.ClassFile.FieldType)) ∈ zW := zW_mem (zt_3 (List.mem_of_getElem? (i := 111) rfl)) rfl
theorem zm3_113 : (Cond.fieldLink "java/lang/Throwable" (31 : Nat) "java/lang/Throwable" "detailMessage" "Ljava/lang/String;") ∈ zW := zW_mem (zt_3 (List.mem_of_getElem? (i := 113) rfl)) rfl
theorem zm3_114 : (Cond.fieldLink "java/lang/Throwable" (7 : Nat) "java/lang/Throwable" "cause" "Ljava/lang/Throwable;") ∈ zW := zW_mem (zt_3 (List.mem_of_getElem? (i := 114) rfl)) rfl
theorem zm3_115 : (Cond.fieldLink "java/lang/Throwable" (17 : Nat) "java/lang/Throwable" "stackTrace" "[Ljava/lang/StackTraceElement;") ∈ zW := zW_mem (zt_3 (List.mem_of_getElem? (i := 115) rfl)) rfl
theorem zm3_116 : (Cond.fieldLink "java/lang/Throwable" (24 : Nat) "java/lang/Throwable" "suppressedExceptions" "Ljava/util/List;") ∈ zW := zW_mem (zt_3 (List.mem_of_getElem? (i := 116) rfl)) rfl
theorem zm3_121 : (Cond.lays "java/lang/IllegalArgumentException" "java/lang/Throwable" "depth" "I") ∈ zW := zW_mem (zt_3 (List.mem_of_getElem? (i := 121) rfl)) rfl
theorem zm3_125 : (Cond.arrayClass Jvm.ClassFile.FieldType.byte) ∈ zW := zW_mem (zt_3 (List.mem_of_getElem? (i := 125) rfl)) rfl
theorem zm3_128 : (Cond.classLink "HourClock" (58 : Nat) "java/lang/IllegalStateException") ∈ zW := zW_mem (zt_3 (List.mem_of_getElem? (i := 128) rfl)) rfl
theorem zm3_129 : (Cond.instantiable "java/lang/IllegalStateException" (6 : Nat)) ∈ zW := zW_mem (zt_3 (List.mem_of_getElem? (i := 129) rfl)) rfl
theorem zm3_131 : (Cond.selects "java/lang/IllegalStateException" ({ cls := "java/lang/Throwable", name := "fillInStackTrace", desc := "(I)Ljava/lang/Throwable;" } : Jvm.MethodName) ({ cls := "java/lang/Throwable", name := "fillInStackTrace", desc := "(I)Ljava/lang/Throwable;" } : Jvm.MethodName)) ∈ zW := zW_mem (zt_3 (List.mem_of_getElem? (i := 131) rfl)) rfl
theorem zm3_132 : (Cond.lays "java/lang/IllegalStateException" "java/lang/Throwable" "cause" "Ljava/lang/Throwable;") ∈ zW := zW_mem (zt_3 (List.mem_of_getElem? (i := 132) rfl)) rfl
theorem zm3_133 : (Cond.lays "java/lang/IllegalStateException" "java/lang/Throwable" "stackTrace" "[Ljava/lang/StackTraceElement;") ∈ zW := zW_mem (zt_3 (List.mem_of_getElem? (i := 133) rfl)) rfl
theorem zm3_134 : (Cond.lays "java/lang/IllegalStateException" "java/lang/Throwable" "suppressedExceptions" "Ljava/util/List;") ∈ zW := zW_mem (zt_3 (List.mem_of_getElem? (i := 134) rfl)) rfl
theorem zm3_135 : (Cond.lays "java/lang/IllegalStateException" "java/lang/Throwable" "detailMessage" "Ljava/lang/String;") ∈ zW := zW_mem (zt_3 (List.mem_of_getElem? (i := 135) rfl)) rfl
theorem zm3_136 : (Cond.lays "java/lang/IllegalStateException" "java/lang/Throwable" "backtrace" "Ljava/lang/Object;") ∈ zW := zW_mem (zt_3 (List.mem_of_getElem? (i := 136) rfl)) rfl
theorem zm3_138 : (Cond.methodLink "HourClock" (62 : Nat) ({ cls := "java/lang/IllegalStateException", name := "<init>", desc := "(Ljava/lang/String;)V" } : Jvm.MethodName)) ∈ zW := zW_mem (zt_3 (List.mem_of_getElem? (i := 138) rfl)) rfl
theorem zm3_139 : (Cond.instanceMethod ({ cls := "java/lang/IllegalStateException", name := "<init>", desc := "(Ljava/lang/String;)V" } : Jvm.MethodName)) ∈ zW := zW_mem (zt_3 (List.mem_of_getElem? (i := 139) rfl)) rfl
theorem zm3_140 : (Cond.code ({ cls := "java/lang/IllegalStateException", name := "<init>", desc := "(Ljava/lang/String;)V" } : Jvm.MethodName) prog_12_method_2_code (2 : Nat) (Option.none : Option Jvm.ClassFile.FieldType)) ∈ zW := zW_mem (zt_3 (List.mem_of_getElem? (i := 140) rfl)) rfl
theorem zm3_141 : (Cond.methodLink "java/lang/IllegalStateException" (7 : Nat) ({ cls := "java/lang/RuntimeException", name := "<init>", desc := "(Ljava/lang/String;)V" } : Jvm.MethodName)) ∈ zW := zW_mem (zt_3 (List.mem_of_getElem? (i := 141) rfl)) rfl
theorem zm3_142 : (Cond.lays "java/lang/IllegalStateException" "java/lang/Throwable" "depth" "I") ∈ zW := zW_mem (zt_3 (List.mem_of_getElem? (i := 142) rfl)) rfl
theorem zm3_145 : (Cond.methodLink "HourClockLaw" (80 : Nat) ({ cls := "HourClockLaw", name := "addFiller", desc := "(LHourClock;I[J)I" } : Jvm.MethodName)) ∈ zW := zW_mem (zt_3 (List.mem_of_getElem? (i := 145) rfl)) rfl
theorem zm3_146 : (Cond.static ({ cls := "HourClockLaw", name := "addFiller", desc := "(LHourClock;I[J)I" } : Jvm.MethodName)) ∈ zW := zW_mem (zt_3 (List.mem_of_getElem? (i := 146) rfl)) rfl
theorem zm3_148 : (Cond.methodLink "HourClockLaw" (17 : Nat) ({ cls := "HourClock", name := "addFiller", desc := "(I)I" } : Jvm.MethodName)) ∈ zW := zW_mem (zt_3 (List.mem_of_getElem? (i := 148) rfl)) rfl
theorem zm3_149 : (Cond.instanceMethod ({ cls := "HourClock", name := "addFiller", desc := "(I)I" } : Jvm.MethodName)) ∈ zW := zW_mem (zt_3 (List.mem_of_getElem? (i := 149) rfl)) rfl
theorem zm3_150 : (Cond.selects "HourClock" ({ cls := "HourClock", name := "addFiller", desc := "(I)I" } : Jvm.MethodName) ({ cls := "HourClock", name := "addFiller", desc := "(I)I" } : Jvm.MethodName)) ∈ zW := zW_mem (zt_3 (List.mem_of_getElem? (i := 150) rfl)) rfl
theorem zm3_151 : (Cond.code ({ cls := "HourClock", name := "addFiller", desc := "(I)I" } : Jvm.MethodName) prog_1_method_3_code (2 : Nat) (Option.some Jvm.ClassFile.FieldType.int)) ∈ zW := zW_mem (zt_3 (List.mem_of_getElem? (i := 151) rfl)) rfl
theorem zm3_154 : (Cond.methodLink "HourClockLaw" (84 : Nat) ({ cls := "HourClockLaw", name := "stretch", desc := "(LHourClock;II[J)I" } : Jvm.MethodName)) ∈ zW := zW_mem (zt_3 (List.mem_of_getElem? (i := 154) rfl)) rfl
theorem zm3_155 : (Cond.static ({ cls := "HourClockLaw", name := "stretch", desc := "(LHourClock;II[J)I" } : Jvm.MethodName)) ∈ zW := zW_mem (zt_3 (List.mem_of_getElem? (i := 155) rfl)) rfl
theorem zm3_157 : (Cond.classLink "HourClockLaw" (25 : Nat) "java/lang/IndexOutOfBoundsException") ∈ zW := zW_mem (zt_3 (List.mem_of_getElem? (i := 157) rfl)) rfl
theorem zm3_158 : (Cond.methodLink "HourClockLaw" (21 : Nat) ({ cls := "HourClock", name := "stretch", desc := "(II)I" } : Jvm.MethodName)) ∈ zW := zW_mem (zt_3 (List.mem_of_getElem? (i := 158) rfl)) rfl
theorem zm3_159 : (Cond.instanceMethod ({ cls := "HourClock", name := "stretch", desc := "(II)I" } : Jvm.MethodName)) ∈ zW := zW_mem (zt_3 (List.mem_of_getElem? (i := 159) rfl)) rfl
theorem zm3_160 : (Cond.selects "HourClock" ({ cls := "HourClock", name := "stretch", desc := "(II)I" } : Jvm.MethodName) ({ cls := "HourClock", name := "stretch", desc := "(II)I" } : Jvm.MethodName)) ∈ zW := zW_mem (zt_3 (List.mem_of_getElem? (i := 160) rfl)) rfl
theorem zm3_161 : (Cond.code ({ cls := "HourClock", name := "stretch", desc := "(II)I" } : Jvm.MethodName) prog_1_method_4_code (4 : Nat) (Option.some Jvm.ClassFile.FieldType.int)) ∈ zW := zW_mem (zt_3 (List.mem_of_getElem? (i := 161) rfl)) rfl
theorem zm3_162 : (Cond.classLink "HourClock" (86 : Nat) "java/lang/IndexOutOfBoundsException") ∈ zW := zW_mem (zt_3 (List.mem_of_getElem? (i := 162) rfl)) rfl
theorem zm3_163 : (Cond.instantiable "java/lang/IndexOutOfBoundsException" (6 : Nat)) ∈ zW := zW_mem (zt_3 (List.mem_of_getElem? (i := 163) rfl)) rfl
theorem zm3_165 : (Cond.selects "java/lang/IndexOutOfBoundsException" ({ cls := "java/lang/Throwable", name := "fillInStackTrace", desc := "(I)Ljava/lang/Throwable;" } : Jvm.MethodName) ({ cls := "java/lang/Throwable", name := "fillInStackTrace", desc := "(I)Ljava/lang/Throwable;" } : Jvm.MethodName)) ∈ zW := zW_mem (zt_3 (List.mem_of_getElem? (i := 165) rfl)) rfl
theorem zm3_166 : (Cond.lays "java/lang/IndexOutOfBoundsException" "java/lang/Throwable" "cause" "Ljava/lang/Throwable;") ∈ zW := zW_mem (zt_3 (List.mem_of_getElem? (i := 166) rfl)) rfl
theorem zm3_167 : (Cond.lays "java/lang/IndexOutOfBoundsException" "java/lang/Throwable" "stackTrace" "[Ljava/lang/StackTraceElement;") ∈ zW := zW_mem (zt_3 (List.mem_of_getElem? (i := 167) rfl)) rfl
theorem zm3_168 : (Cond.lays "java/lang/IndexOutOfBoundsException" "java/lang/Throwable" "suppressedExceptions" "Ljava/util/List;") ∈ zW := zW_mem (zt_3 (List.mem_of_getElem? (i := 168) rfl)) rfl
theorem zm3_169 : (Cond.lays "java/lang/IndexOutOfBoundsException" "java/lang/Throwable" "detailMessage" "Ljava/lang/String;") ∈ zW := zW_mem (zt_3 (List.mem_of_getElem? (i := 169) rfl)) rfl
theorem zm3_170 : (Cond.lays "java/lang/IndexOutOfBoundsException" "java/lang/Throwable" "backtrace" "Ljava/lang/Object;") ∈ zW := zW_mem (zt_3 (List.mem_of_getElem? (i := 170) rfl)) rfl
theorem zm3_172 : (Cond.methodLink "HourClock" (90 : Nat) ({ cls := "java/lang/IndexOutOfBoundsException", name := "<init>", desc := "(Ljava/lang/String;)V" } : Jvm.MethodName)) ∈ zW := zW_mem (zt_3 (List.mem_of_getElem? (i := 172) rfl)) rfl
theorem zm3_173 : (Cond.instanceMethod ({ cls := "java/lang/IndexOutOfBoundsException", name := "<init>", desc := "(Ljava/lang/String;)V" } : Jvm.MethodName)) ∈ zW := zW_mem (zt_3 (List.mem_of_getElem? (i := 173) rfl)) rfl
theorem zm3_174 : (Cond.code ({ cls := "java/lang/IndexOutOfBoundsException", name := "<init>", desc := "(Ljava/lang/String;)V" } : Jvm.MethodName) prog_13_method_2_code (2 : Nat) (Option.none : Option Jvm.ClassFile.FieldType)) ∈ zW := zW_mem (zt_3 (List.mem_of_getElem? (i := 174) rfl)) rfl
theorem zm3_175 : (Cond.methodLink "java/lang/IndexOutOfBoundsException" (7 : Nat) ({ cls := "java/lang/RuntimeException", name := "<init>", desc := "(Ljava/lang/String;)V" } : Jvm.MethodName)) ∈ zW := zW_mem (zt_3 (List.mem_of_getElem? (i := 175) rfl)) rfl
theorem zm3_176 : (Cond.lays "java/lang/IndexOutOfBoundsException" "java/lang/Throwable" "depth" "I") ∈ zW := zW_mem (zt_3 (List.mem_of_getElem? (i := 176) rfl)) rfl
theorem zm3_181 : (Cond.instanceMethod ({ cls := "HourClock$Hour", name := "canHaveLength", desc := "(II)Z" } : Jvm.MethodName)) ∈ zW := zW_mem (zt_3 (List.mem_of_getElem? (i := 181) rfl)) rfl
theorem zm3_182 : (Cond.code ({ cls := "HourClock$Hour", name := "canHaveLength", desc := "(II)Z" } : Jvm.MethodName) prog_4_method_15_code (3 : Nat) (Option.some Jvm.ClassFile.FieldType.boolean)) ∈ zW := zW_mem (zt_3 (List.mem_of_getElem? (i := 182) rfl)) rfl
theorem zm3_189 : (Cond.instanceMethod ({ cls := "HourClock$Hour", name := "giveLength", desc := "(II)V" } : Jvm.MethodName)) ∈ zW := zW_mem (zt_3 (List.mem_of_getElem? (i := 189) rfl)) rfl
theorem zm3_190 : (Cond.code ({ cls := "HourClock$Hour", name := "giveLength", desc := "(II)V" } : Jvm.MethodName) prog_4_method_16_code (3 : Nat) (Option.none : Option Jvm.ClassFile.FieldType)) ∈ zW := zW_mem (zt_3 (List.mem_of_getElem? (i := 190) rfl)) rfl
theorem zm3_191 : (Cond.methodLink "HourClockLaw" (88 : Nat) ({ cls := "HourClockLaw", name := "drop", desc := "(LHourClock;I[J)I" } : Jvm.MethodName)) ∈ zW := zW_mem (zt_3 (List.mem_of_getElem? (i := 191) rfl)) rfl
theorem zm3_192 : (Cond.static ({ cls := "HourClockLaw", name := "drop", desc := "(LHourClock;I[J)I" } : Jvm.MethodName)) ∈ zW := zW_mem (zt_3 (List.mem_of_getElem? (i := 192) rfl)) rfl
theorem zm3_194 : (Cond.methodLink "HourClockLaw" (27 : Nat) ({ cls := "HourClock", name := "drop", desc := "(I)I" } : Jvm.MethodName)) ∈ zW := zW_mem (zt_3 (List.mem_of_getElem? (i := 194) rfl)) rfl
theorem zm3_195 : (Cond.instanceMethod ({ cls := "HourClock", name := "drop", desc := "(I)I" } : Jvm.MethodName)) ∈ zW := zW_mem (zt_3 (List.mem_of_getElem? (i := 195) rfl)) rfl
theorem zm3_196 : (Cond.selects "HourClock" ({ cls := "HourClock", name := "drop", desc := "(I)I" } : Jvm.MethodName) ({ cls := "HourClock", name := "drop", desc := "(I)I" } : Jvm.MethodName)) ∈ zW := zW_mem (zt_3 (List.mem_of_getElem? (i := 196) rfl)) rfl
theorem zm3_197 : (Cond.code ({ cls := "HourClock", name := "drop", desc := "(I)I" } : Jvm.MethodName) prog_1_method_5_code (2 : Nat) (Option.some Jvm.ClassFile.FieldType.int)) ∈ zW := zW_mem (zt_3 (List.mem_of_getElem? (i := 197) rfl)) rfl
theorem zm3_199 : (Cond.methodLink "HourClockLaw" (91 : Nat) ({ cls := "HourClockLaw", name := "pass", desc := "(LHourClock;I[J)I" } : Jvm.MethodName)) ∈ zW := zW_mem (zt_3 (List.mem_of_getElem? (i := 199) rfl)) rfl
theorem zm3_200 : (Cond.static ({ cls := "HourClockLaw", name := "pass", desc := "(LHourClock;I[J)I" } : Jvm.MethodName)) ∈ zW := zW_mem (zt_3 (List.mem_of_getElem? (i := 200) rfl)) rfl
theorem zm3_202 : (Cond.methodLink "HourClockLaw" (30 : Nat) ({ cls := "HourClock", name := "pass", desc := "(I)I" } : Jvm.MethodName)) ∈ zW := zW_mem (zt_3 (List.mem_of_getElem? (i := 202) rfl)) rfl
theorem zm3_203 : (Cond.instanceMethod ({ cls := "HourClock", name := "pass", desc := "(I)I" } : Jvm.MethodName)) ∈ zW := zW_mem (zt_3 (List.mem_of_getElem? (i := 203) rfl)) rfl
theorem zm3_204 : (Cond.selects "HourClock" ({ cls := "HourClock", name := "pass", desc := "(I)I" } : Jvm.MethodName) ({ cls := "HourClock", name := "pass", desc := "(I)I" } : Jvm.MethodName)) ∈ zW := zW_mem (zt_3 (List.mem_of_getElem? (i := 204) rfl)) rfl
theorem zm3_205 : (Cond.code ({ cls := "HourClock", name := "pass", desc := "(I)I" } : Jvm.MethodName) prog_1_method_6_code (3 : Nat) (Option.some Jvm.ClassFile.FieldType.int)) ∈ zW := zW_mem (zt_3 (List.mem_of_getElem? (i := 205) rfl)) rfl
theorem zm3_207 : (Cond.methodLink "HourClockLaw" (98 : Nat) ({ cls := "HourClockLaw", name := "again", desc := "(LHourClock;[J)I" } : Jvm.MethodName)) ∈ zW := zW_mem (zt_3 (List.mem_of_getElem? (i := 207) rfl)) rfl
theorem zm3_208 : (Cond.static ({ cls := "HourClockLaw", name := "again", desc := "(LHourClock;[J)I" } : Jvm.MethodName)) ∈ zW := zW_mem (zt_3 (List.mem_of_getElem? (i := 208) rfl)) rfl
theorem zm3_210 : (Cond.methodLink "HourClockLaw" (33 : Nat) ({ cls := "HourClock", name := "again", desc := "()I" } : Jvm.MethodName)) ∈ zW := zW_mem (zt_3 (List.mem_of_getElem? (i := 210) rfl)) rfl
theorem zm3_211 : (Cond.instanceMethod ({ cls := "HourClock", name := "again", desc := "()I" } : Jvm.MethodName)) ∈ zW := zW_mem (zt_3 (List.mem_of_getElem? (i := 211) rfl)) rfl
theorem zm3_212 : (Cond.selects "HourClock" ({ cls := "HourClock", name := "again", desc := "()I" } : Jvm.MethodName) ({ cls := "HourClock", name := "again", desc := "()I" } : Jvm.MethodName)) ∈ zW := zW_mem (zt_3 (List.mem_of_getElem? (i := 212) rfl)) rfl
theorem zm3_213 : (Cond.code ({ cls := "HourClock", name := "again", desc := "()I" } : Jvm.MethodName) prog_1_method_8_code (1 : Nat) (Option.some Jvm.ClassFile.FieldType.int)) ∈ zW := zW_mem (zt_3 (List.mem_of_getElem? (i := 213) rfl)) rfl
theorem zm3_216 : (Cond.methodLink "HourClockLaw" (102 : Nat) ({ cls := "HourClockLaw", name := "element", desc := "(LHourClock;II[J)I" } : Jvm.MethodName)) ∈ zW := zW_mem (zt_3 (List.mem_of_getElem? (i := 216) rfl)) rfl
theorem zm3_217 : (Cond.static ({ cls := "HourClockLaw", name := "element", desc := "(LHourClock;II[J)I" } : Jvm.MethodName)) ∈ zW := zW_mem (zt_3 (List.mem_of_getElem? (i := 217) rfl)) rfl
theorem zm3_219 : (Cond.methodLink "HourClockLaw" (37 : Nat) ({ cls := "HourClock", name := "element", desc := "(II)I" } : Jvm.MethodName)) ∈ zW := zW_mem (zt_3 (List.mem_of_getElem? (i := 219) rfl)) rfl
theorem zm3_220 : (Cond.instanceMethod ({ cls := "HourClock", name := "element", desc := "(II)I" } : Jvm.MethodName)) ∈ zW := zW_mem (zt_3 (List.mem_of_getElem? (i := 220) rfl)) rfl
theorem zm3_221 : (Cond.selects "HourClock" ({ cls := "HourClock", name := "element", desc := "(II)I" } : Jvm.MethodName) ({ cls := "HourClock", name := "element", desc := "(II)I" } : Jvm.MethodName)) ∈ zW := zW_mem (zt_3 (List.mem_of_getElem? (i := 221) rfl)) rfl
theorem zm3_222 : (Cond.code ({ cls := "HourClock", name := "element", desc := "(II)I" } : Jvm.MethodName) prog_1_method_9_code (3 : Nat) (Option.some Jvm.ClassFile.FieldType.int)) ∈ zW := zW_mem (zt_3 (List.mem_of_getElem? (i := 222) rfl)) rfl
theorem zm3_224 : (Cond.methodLink "HourClockLaw" (105 : Nat) ({ cls := "HourClockLaw", name := "filler", desc := "(LHourClock;II[J)I" } : Jvm.MethodName)) ∈ zW := zW_mem (zt_3 (List.mem_of_getElem? (i := 224) rfl)) rfl
theorem zm3_225 : (Cond.static ({ cls := "HourClockLaw", name := "filler", desc := "(LHourClock;II[J)I" } : Jvm.MethodName)) ∈ zW := zW_mem (zt_3 (List.mem_of_getElem? (i := 225) rfl)) rfl
theorem zm3_227 : (Cond.methodLink "HourClockLaw" (40 : Nat) ({ cls := "HourClock", name := "filler", desc := "(II)I" } : Jvm.MethodName)) ∈ zW := zW_mem (zt_3 (List.mem_of_getElem? (i := 227) rfl)) rfl
theorem zm3_228 : (Cond.instanceMethod ({ cls := "HourClock", name := "filler", desc := "(II)I" } : Jvm.MethodName)) ∈ zW := zW_mem (zt_3 (List.mem_of_getElem? (i := 228) rfl)) rfl
theorem zm3_229 : (Cond.selects "HourClock" ({ cls := "HourClock", name := "filler", desc := "(II)I" } : Jvm.MethodName) ({ cls := "HourClock", name := "filler", desc := "(II)I" } : Jvm.MethodName)) ∈ zW := zW_mem (zt_3 (List.mem_of_getElem? (i := 229) rfl)) rfl
theorem zm3_230 : (Cond.code ({ cls := "HourClock", name := "filler", desc := "(II)I" } : Jvm.MethodName) prog_1_method_10_code (3 : Nat) (Option.some Jvm.ClassFile.FieldType.int)) ∈ zW := zW_mem (zt_3 (List.mem_of_getElem? (i := 230) rfl)) rfl
theorem zm3_233 : (Cond.methodLink "HourClockLaw" (108 : Nat) ({ cls := "HourClockLaw", name := "value", desc := "(LHourClock;I[J)I" } : Jvm.MethodName)) ∈ zW := zW_mem (zt_3 (List.mem_of_getElem? (i := 233) rfl)) rfl
theorem zm3_234 : (Cond.static ({ cls := "HourClockLaw", name := "value", desc := "(LHourClock;I[J)I" } : Jvm.MethodName)) ∈ zW := zW_mem (zt_3 (List.mem_of_getElem? (i := 234) rfl)) rfl
theorem zm3_236 : (Cond.methodLink "HourClockLaw" (43 : Nat) ({ cls := "HourClock", name := "value", desc := "(I)I" } : Jvm.MethodName)) ∈ zW := zW_mem (zt_3 (List.mem_of_getElem? (i := 236) rfl)) rfl
theorem zm3_237 : (Cond.instanceMethod ({ cls := "HourClock", name := "value", desc := "(I)I" } : Jvm.MethodName)) ∈ zW := zW_mem (zt_3 (List.mem_of_getElem? (i := 237) rfl)) rfl
theorem zm3_238 : (Cond.selects "HourClock" ({ cls := "HourClock", name := "value", desc := "(I)I" } : Jvm.MethodName) ({ cls := "HourClock", name := "value", desc := "(I)I" } : Jvm.MethodName)) ∈ zW := zW_mem (zt_3 (List.mem_of_getElem? (i := 238) rfl)) rfl
theorem zm3_239 : (Cond.code ({ cls := "HourClock", name := "value", desc := "(I)I" } : Jvm.MethodName) prog_1_method_11_code (2 : Nat) (Option.some Jvm.ClassFile.FieldType.int)) ∈ zW := zW_mem (zt_3 (List.mem_of_getElem? (i := 239) rfl)) rfl
theorem zm4_0 : (Cond.methodLink "HourClockLaw" (111 : Nat) ({ cls := "HourClockLaw", name := "entry", desc := "(LHourClock;II[J)I" } : Jvm.MethodName)) ∈ zW := zW_mem (zt_4 (List.mem_of_getElem? (i := 0) rfl)) rfl
theorem zm4_1 : (Cond.static ({ cls := "HourClockLaw", name := "entry", desc := "(LHourClock;II[J)I" } : Jvm.MethodName)) ∈ zW := zW_mem (zt_4 (List.mem_of_getElem? (i := 1) rfl)) rfl
theorem zm4_3 : (Cond.methodLink "HourClockLaw" (46 : Nat) ({ cls := "HourClock", name := "entry", desc := "(II)I" } : Jvm.MethodName)) ∈ zW := zW_mem (zt_4 (List.mem_of_getElem? (i := 3) rfl)) rfl
theorem zm4_4 : (Cond.instanceMethod ({ cls := "HourClock", name := "entry", desc := "(II)I" } : Jvm.MethodName)) ∈ zW := zW_mem (zt_4 (List.mem_of_getElem? (i := 4) rfl)) rfl
theorem zm4_5 : (Cond.selects "HourClock" ({ cls := "HourClock", name := "entry", desc := "(II)I" } : Jvm.MethodName) ({ cls := "HourClock", name := "entry", desc := "(II)I" } : Jvm.MethodName)) ∈ zW := zW_mem (zt_4 (List.mem_of_getElem? (i := 5) rfl)) rfl
theorem zm4_6 : (Cond.code ({ cls := "HourClock", name := "entry", desc := "(II)I" } : Jvm.MethodName) prog_1_method_12_code (3 : Nat) (Option.some Jvm.ClassFile.FieldType.int)) ∈ zW := zW_mem (zt_4 (List.mem_of_getElem? (i := 6) rfl)) rfl
theorem zm4_9 : (Cond.methodLink "HourClockLaw" (114 : Nat) ({ cls := "HourClockLaw", name := "backTime", desc := "(LHourClock;I[J)I" } : Jvm.MethodName)) ∈ zW := zW_mem (zt_4 (List.mem_of_getElem? (i := 9) rfl)) rfl
theorem zm4_10 : (Cond.static ({ cls := "HourClockLaw", name := "backTime", desc := "(LHourClock;I[J)I" } : Jvm.MethodName)) ∈ zW := zW_mem (zt_4 (List.mem_of_getElem? (i := 10) rfl)) rfl
theorem zm4_12 : (Cond.methodLink "HourClockLaw" (49 : Nat) ({ cls := "HourClock", name := "backTime", desc := "(I)I" } : Jvm.MethodName)) ∈ zW := zW_mem (zt_4 (List.mem_of_getElem? (i := 12) rfl)) rfl
theorem zm4_13 : (Cond.instanceMethod ({ cls := "HourClock", name := "backTime", desc := "(I)I" } : Jvm.MethodName)) ∈ zW := zW_mem (zt_4 (List.mem_of_getElem? (i := 13) rfl)) rfl
theorem zm4_14 : (Cond.selects "HourClock" ({ cls := "HourClock", name := "backTime", desc := "(I)I" } : Jvm.MethodName) ({ cls := "HourClock", name := "backTime", desc := "(I)I" } : Jvm.MethodName)) ∈ zW := zW_mem (zt_4 (List.mem_of_getElem? (i := 14) rfl)) rfl
theorem zm4_15 : (Cond.code ({ cls := "HourClock", name := "backTime", desc := "(I)I" } : Jvm.MethodName) prog_1_method_13_code (2 : Nat) (Option.some Jvm.ClassFile.FieldType.int)) ∈ zW := zW_mem (zt_4 (List.mem_of_getElem? (i := 15) rfl)) rfl
theorem zm4_16 : (Cond.methodLink "HourClockLaw" (117 : Nat) ({ cls := "HourClockLaw", name := "beginOf", desc := "(LHourClock;I[J)I" } : Jvm.MethodName)) ∈ zW := zW_mem (zt_4 (List.mem_of_getElem? (i := 16) rfl)) rfl
theorem zm4_17 : (Cond.static ({ cls := "HourClockLaw", name := "beginOf", desc := "(LHourClock;I[J)I" } : Jvm.MethodName)) ∈ zW := zW_mem (zt_4 (List.mem_of_getElem? (i := 17) rfl)) rfl
theorem zm4_19 : (Cond.methodLink "HourClockLaw" (52 : Nat) ({ cls := "HourClock", name := "beginOf", desc := "(I)I" } : Jvm.MethodName)) ∈ zW := zW_mem (zt_4 (List.mem_of_getElem? (i := 19) rfl)) rfl
theorem zm4_20 : (Cond.instanceMethod ({ cls := "HourClock", name := "beginOf", desc := "(I)I" } : Jvm.MethodName)) ∈ zW := zW_mem (zt_4 (List.mem_of_getElem? (i := 20) rfl)) rfl
theorem zm4_21 : (Cond.selects "HourClock" ({ cls := "HourClock", name := "beginOf", desc := "(I)I" } : Jvm.MethodName) ({ cls := "HourClock", name := "beginOf", desc := "(I)I" } : Jvm.MethodName)) ∈ zW := zW_mem (zt_4 (List.mem_of_getElem? (i := 21) rfl)) rfl
theorem zm4_22 : (Cond.code ({ cls := "HourClock", name := "beginOf", desc := "(I)I" } : Jvm.MethodName) prog_1_method_14_code (2 : Nat) (Option.some Jvm.ClassFile.FieldType.int)) ∈ zW := zW_mem (zt_4 (List.mem_of_getElem? (i := 22) rfl)) rfl
theorem zm4_23 : (Cond.methodLink "HourClockLaw" (132 : Nat) ({ cls := "HourClockLaw", name := "choice", desc := "(LHourClock;I[J)I" } : Jvm.MethodName)) ∈ zW := zW_mem (zt_4 (List.mem_of_getElem? (i := 23) rfl)) rfl
theorem zm4_24 : (Cond.static ({ cls := "HourClockLaw", name := "choice", desc := "(LHourClock;I[J)I" } : Jvm.MethodName)) ∈ zW := zW_mem (zt_4 (List.mem_of_getElem? (i := 24) rfl)) rfl
theorem zm4_26 : (Cond.methodLink "HourClockLaw" (55 : Nat) ({ cls := "HourClock", name := "choice", desc := "(I)I" } : Jvm.MethodName)) ∈ zW := zW_mem (zt_4 (List.mem_of_getElem? (i := 26) rfl)) rfl
theorem zm4_27 : (Cond.instanceMethod ({ cls := "HourClock", name := "choice", desc := "(I)I" } : Jvm.MethodName)) ∈ zW := zW_mem (zt_4 (List.mem_of_getElem? (i := 27) rfl)) rfl
theorem zm4_28 : (Cond.selects "HourClock" ({ cls := "HourClock", name := "choice", desc := "(I)I" } : Jvm.MethodName) ({ cls := "HourClock", name := "choice", desc := "(I)I" } : Jvm.MethodName)) ∈ zW := zW_mem (zt_4 (List.mem_of_getElem? (i := 28) rfl)) rfl
theorem zm4_29 : (Cond.code ({ cls := "HourClock", name := "choice", desc := "(I)I" } : Jvm.MethodName) prog_1_method_18_code (2 : Nat) (Option.some Jvm.ClassFile.FieldType.int)) ∈ zW := zW_mem (zt_4 (List.mem_of_getElem? (i := 29) rfl)) rfl
theorem zm4_32 : (Cond.methodLink "HourClockLaw" (135 : Nat) ({ cls := "HourClockLaw", name := "nextFull", desc := "(LHourClock;I[J)I" } : Jvm.MethodName)) ∈ zW := zW_mem (zt_4 (List.mem_of_getElem? (i := 32) rfl)) rfl
theorem zm4_33 : (Cond.static ({ cls := "HourClockLaw", name := "nextFull", desc := "(LHourClock;I[J)I" } : Jvm.MethodName)) ∈ zW := zW_mem (zt_4 (List.mem_of_getElem? (i := 33) rfl)) rfl
theorem zm4_35 : (Cond.methodLink "HourClockLaw" (58 : Nat) ({ cls := "HourClock", name := "nextFull", desc := "(I)I" } : Jvm.MethodName)) ∈ zW := zW_mem (zt_4 (List.mem_of_getElem? (i := 35) rfl)) rfl
theorem zm4_36 : (Cond.instanceMethod ({ cls := "HourClock", name := "nextFull", desc := "(I)I" } : Jvm.MethodName)) ∈ zW := zW_mem (zt_4 (List.mem_of_getElem? (i := 36) rfl)) rfl
theorem zm4_37 : (Cond.selects "HourClock" ({ cls := "HourClock", name := "nextFull", desc := "(I)I" } : Jvm.MethodName) ({ cls := "HourClock", name := "nextFull", desc := "(I)I" } : Jvm.MethodName)) ∈ zW := zW_mem (zt_4 (List.mem_of_getElem? (i := 37) rfl)) rfl
theorem zm4_38 : (Cond.code ({ cls := "HourClock", name := "nextFull", desc := "(I)I" } : Jvm.MethodName) prog_1_method_19_code (2 : Nat) (Option.some Jvm.ClassFile.FieldType.int)) ∈ zW := zW_mem (zt_4 (List.mem_of_getElem? (i := 38) rfl)) rfl
theorem zm4_42 : (Cond.instanceMethod ({ cls := "HourClock$Fillers", name := "leastSumAbove", desc := "(I)I" } : Jvm.MethodName)) ∈ zW := zW_mem (zt_4 (List.mem_of_getElem? (i := 42) rfl)) rfl
theorem zm4_43 : (Cond.code ({ cls := "HourClock$Fillers", name := "leastSumAbove", desc := "(I)I" } : Jvm.MethodName) prog_3_method_8_code (5 : Nat) (Option.some Jvm.ClassFile.FieldType.int)) ∈ zW := zW_mem (zt_4 (List.mem_of_getElem? (i := 43) rfl)) rfl
theorem zm4_44 : (Cond.methodLink "HourClockLaw" (147 : Nat) ({ cls := "HourClockLaw", name := "append", desc := "(LHourClock;I[J)I" } : Jvm.MethodName)) ∈ zW := zW_mem (zt_4 (List.mem_of_getElem? (i := 44) rfl)) rfl
theorem zm4_45 : (Cond.static ({ cls := "HourClockLaw", name := "append", desc := "(LHourClock;I[J)I" } : Jvm.MethodName)) ∈ zW := zW_mem (zt_4 (List.mem_of_getElem? (i := 45) rfl)) rfl
theorem zm4_47 : (Cond.methodLink "HourClockLaw" (61 : Nat) ({ cls := "HourClock", name := "append", desc := "(I)I" } : Jvm.MethodName)) ∈ zW := zW_mem (zt_4 (List.mem_of_getElem? (i := 47) rfl)) rfl
theorem zm4_48 : (Cond.instanceMethod ({ cls := "HourClock", name := "append", desc := "(I)I" } : Jvm.MethodName)) ∈ zW := zW_mem (zt_4 (List.mem_of_getElem? (i := 48) rfl)) rfl
theorem zm4_49 : (Cond.selects "HourClock" ({ cls := "HourClock", name := "append", desc := "(I)I" } : Jvm.MethodName) ({ cls := "HourClock", name := "append", desc := "(I)I" } : Jvm.MethodName)) ∈ zW := zW_mem (zt_4 (List.mem_of_getElem? (i := 49) rfl)) rfl
theorem zm4_50 : (Cond.code ({ cls := "HourClock", name := "append", desc := "(I)I" } : Jvm.MethodName) prog_1_method_22_code (2 : Nat) (Option.some Jvm.ClassFile.FieldType.int)) ∈ zW := zW_mem (zt_4 (List.mem_of_getElem? (i := 50) rfl)) rfl
theorem zm4_55 : (Cond.instanceMethod ({ cls := "HourClock$Text", name := "put", desc := "(I)V" } : Jvm.MethodName)) ∈ zW := zW_mem (zt_4 (List.mem_of_getElem? (i := 55) rfl)) rfl
theorem zm4_56 : (Cond.code ({ cls := "HourClock$Text", name := "put", desc := "(I)V" } : Jvm.MethodName) prog_7_method_2_code (2 : Nat) (Option.none : Option Jvm.ClassFile.FieldType)) ∈ zW := zW_mem (zt_4 (List.mem_of_getElem? (i := 56) rfl)) rfl
theorem zm4_57 : (Cond.methodLink "HourClockLaw" (158 : Nat) ({ cls := "HourClockLaw", name := "undo", desc := "(LHourClock;[J)I" } : Jvm.MethodName)) ∈ zW := zW_mem (zt_4 (List.mem_of_getElem? (i := 57) rfl)) rfl
theorem zm4_58 : (Cond.static ({ cls := "HourClockLaw", name := "undo", desc := "(LHourClock;[J)I" } : Jvm.MethodName)) ∈ zW := zW_mem (zt_4 (List.mem_of_getElem? (i := 58) rfl)) rfl
theorem zm4_60 : (Cond.methodLink "HourClockLaw" (64 : Nat) ({ cls := "HourClock", name := "undo", desc := "()I" } : Jvm.MethodName)) ∈ zW := zW_mem (zt_4 (List.mem_of_getElem? (i := 60) rfl)) rfl
theorem zm4_61 : (Cond.instanceMethod ({ cls := "HourClock", name := "undo", desc := "()I" } : Jvm.MethodName)) ∈ zW := zW_mem (zt_4 (List.mem_of_getElem? (i := 61) rfl)) rfl
theorem zm4_62 : (Cond.selects "HourClock" ({ cls := "HourClock", name := "undo", desc := "()I" } : Jvm.MethodName) ({ cls := "HourClock", name := "undo", desc := "()I" } : Jvm.MethodName)) ∈ zW := zW_mem (zt_4 (List.mem_of_getElem? (i := 62) rfl)) rfl
theorem zm4_63 : (Cond.code ({ cls := "HourClock", name := "undo", desc := "()I" } : Jvm.MethodName) prog_1_method_25_code (1 : Nat) (Option.some Jvm.ClassFile.FieldType.int)) ∈ zW := zW_mem (zt_4 (List.mem_of_getElem? (i := 63) rfl)) rfl
theorem zm4_65 : (Cond.classLink "HourClockLaw" (68 : Nat) "HourClockModel") ∈ zW := zW_mem (zt_4 (List.mem_of_getElem? (i := 65) rfl)) rfl
theorem zm4_66 : (Cond.instantiable "HourClockModel" (11 : Nat)) ∈ zW := zW_mem (zt_4 (List.mem_of_getElem? (i := 66) rfl)) rfl
theorem zm4_67 : (Cond.methodLink "HourClockLaw" (70 : Nat) ({ cls := "HourClockModel", name := "<init>", desc := "()V" } : Jvm.MethodName)) ∈ zW := zW_mem (zt_4 (List.mem_of_getElem? (i := 67) rfl)) rfl
theorem zm4_68 : (Cond.instanceMethod ({ cls := "HourClockModel", name := "<init>", desc := "()V" } : Jvm.MethodName)) ∈ zW := zW_mem (zt_4 (List.mem_of_getElem? (i := 68) rfl)) rfl
theorem zm4_69 : (Cond.code ({ cls := "HourClockModel", name := "<init>", desc := "()V" } : Jvm.MethodName) prog_9_method_1_code (1 : Nat) (Option.none : Option Jvm.ClassFile.FieldType)) ∈ zW := zW_mem (zt_4 (List.mem_of_getElem? (i := 69) rfl)) rfl
theorem zm4_70 : (Cond.methodLink "HourClockModel" (1 : Nat) ({ cls := "java/lang/Object", name := "<init>", desc := "()V" } : Jvm.MethodName)) ∈ zW := zW_mem (zt_4 (List.mem_of_getElem? (i := 70) rfl)) rfl
theorem zm4_71 : (Cond.fieldLink "HourClockModel" (7 : Nat) "HourClockModel" "s" "[I") ∈ zW := zW_mem (zt_4 (List.mem_of_getElem? (i := 71) rfl)) rfl
theorem zm4_72 : (Cond.fieldLink "HourClockModel" (13 : Nat) "HourClockModel" "past" "[I") ∈ zW := zW_mem (zt_4 (List.mem_of_getElem? (i := 72) rfl)) rfl
theorem zm4_73 : (Cond.fieldLink "HourClockModel" (16 : Nat) "HourClockModel" "aside" "[I") ∈ zW := zW_mem (zt_4 (List.mem_of_getElem? (i := 73) rfl)) rfl
theorem zm4_74 : (Cond.fieldLink "HourClockModel" (19 : Nat) "HourClockModel" "then" "[I") ∈ zW := zW_mem (zt_4 (List.mem_of_getElem? (i := 74) rfl)) rfl
theorem zm4_75 : (Cond.fieldLink "HourClockModel" (29 : Nat) "HourClockModel" "pasts" "I") ∈ zW := zW_mem (zt_4 (List.mem_of_getElem? (i := 75) rfl)) rfl
theorem zm4_76 : (Cond.fieldLink "HourClockModel" (22 : Nat) "HourClockModel" "text" "[I") ∈ zW := zW_mem (zt_4 (List.mem_of_getElem? (i := 76) rfl)) rfl
theorem zm4_77 : (Cond.fieldLink "HourClockModel" (175 : Nat) "HourClockModel" "typed" "I") ∈ zW := zW_mem (zt_4 (List.mem_of_getElem? (i := 77) rfl)) rfl
theorem zm4_78 : (Cond.fieldLink "HourClockModel" (25 : Nat) "HourClockModel" "thrown" "I") ∈ zW := zW_mem (zt_4 (List.mem_of_getElem? (i := 78) rfl)) rfl
theorem zm4_79 : (Cond.fieldLink "HourClockModel" (178 : Nat) "HourClockModel" "spot" "I") ∈ zW := zW_mem (zt_4 (List.mem_of_getElem? (i := 79) rfl)) rfl
theorem zm4_80 : (Cond.fieldLink "HourClockModel" (184 : Nat) "HourClockModel" "number" "I") ∈ zW := zW_mem (zt_4 (List.mem_of_getElem? (i := 80) rfl)) rfl
theorem zm4_81 : (Cond.fieldLink "HourClockModel" (205 : Nat) "HourClockModel" "h" "J") ∈ zW := zW_mem (zt_4 (List.mem_of_getElem? (i := 81) rfl)) rfl
theorem zm4_82 : (Cond.laysFinal "HourClockModel" "HourClockModel" "s" "[I") ∈ zW := zW_mem (zt_4 (List.mem_of_getElem? (i := 82) rfl)) rfl
theorem zm4_84 : (Cond.laysFinal "HourClockModel" "HourClockModel" "past" "[I") ∈ zW := zW_mem (zt_4 (List.mem_of_getElem? (i := 84) rfl)) rfl
theorem zm4_86 : (Cond.laysFinal "HourClockModel" "HourClockModel" "aside" "[I") ∈ zW := zW_mem (zt_4 (List.mem_of_getElem? (i := 86) rfl)) rfl
theorem zm4_88 : (Cond.laysFinal "HourClockModel" "HourClockModel" "then" "[I") ∈ zW := zW_mem (zt_4 (List.mem_of_getElem? (i := 88) rfl)) rfl
theorem zm4_90 : (Cond.lays "HourClockModel" "HourClockModel" "pasts" "I") ∈ zW := zW_mem (zt_4 (List.mem_of_getElem? (i := 90) rfl)) rfl
theorem zm4_92 : (Cond.laysFinal "HourClockModel" "HourClockModel" "text" "[I") ∈ zW := zW_mem (zt_4 (List.mem_of_getElem? (i := 92) rfl)) rfl
theorem zm4_94 : (Cond.lays "HourClockModel" "HourClockModel" "typed" "I") ∈ zW := zW_mem (zt_4 (List.mem_of_getElem? (i := 94) rfl)) rfl
theorem zm4_96 : (Cond.lays "HourClockModel" "HourClockModel" "thrown" "I") ∈ zW := zW_mem (zt_4 (List.mem_of_getElem? (i := 96) rfl)) rfl
theorem zm4_98 : (Cond.lays "HourClockModel" "HourClockModel" "spot" "I") ∈ zW := zW_mem (zt_4 (List.mem_of_getElem? (i := 98) rfl)) rfl
theorem zm4_100 : (Cond.lays "HourClockModel" "HourClockModel" "number" "I") ∈ zW := zW_mem (zt_4 (List.mem_of_getElem? (i := 100) rfl)) rfl
theorem zm4_102 : (Cond.lays "HourClockModel" "HourClockModel" "h" "J") ∈ zW := zW_mem (zt_4 (List.mem_of_getElem? (i := 102) rfl)) rfl
theorem zm4_105 : (Cond.methodLink "HourClockLaw" (77 : Nat) ({ cls := "HourClockModel", name := "thrown", desc := "()I" } : Jvm.MethodName)) ∈ zW := zW_mem (zt_4 (List.mem_of_getElem? (i := 105) rfl)) rfl
theorem zm4_106 : (Cond.instanceMethod ({ cls := "HourClockModel", name := "thrown", desc := "()I" } : Jvm.MethodName)) ∈ zW := zW_mem (zt_4 (List.mem_of_getElem? (i := 106) rfl)) rfl
theorem zm4_107 : (Cond.selects "HourClockModel" ({ cls := "HourClockModel", name := "thrown", desc := "()I" } : Jvm.MethodName) ({ cls := "HourClockModel", name := "thrown", desc := "()I" } : Jvm.MethodName)) ∈ zW := zW_mem (zt_4 (List.mem_of_getElem? (i := 107) rfl)) rfl
theorem zm4_108 : (Cond.code ({ cls := "HourClockModel", name := "thrown", desc := "()I" } : Jvm.MethodName) prog_9_method_2_code (1 : Nat) (Option.some Jvm.ClassFile.FieldType.int)) ∈ zW := zW_mem (zt_4 (List.mem_of_getElem? (i := 108) rfl)) rfl
theorem zm4_109 : (Cond.methodLink "HourClockLaw" (76 : Nat) ({ cls := "HourClockModel", name := "addElement", desc := "(III)I" } : Jvm.MethodName)) ∈ zW := zW_mem (zt_4 (List.mem_of_getElem? (i := 109) rfl)) rfl
theorem zm4_110 : (Cond.instanceMethod ({ cls := "HourClockModel", name := "addElement", desc := "(III)I" } : Jvm.MethodName)) ∈ zW := zW_mem (zt_4 (List.mem_of_getElem? (i := 110) rfl)) rfl
theorem zm4_111 : (Cond.selects "HourClockModel" ({ cls := "HourClockModel", name := "addElement", desc := "(III)I" } : Jvm.MethodName) ({ cls := "HourClockModel", name := "addElement", desc := "(III)I" } : Jvm.MethodName)) ∈ zW := zW_mem (zt_4 (List.mem_of_getElem? (i := 111) rfl)) rfl
theorem zm4_112 : (Cond.code ({ cls := "HourClockModel", name := "addElement", desc := "(III)I" } : Jvm.MethodName) prog_9_method_37_code (4 : Nat) (Option.some Jvm.ClassFile.FieldType.int)) ∈ zW := zW_mem (zt_4 (List.mem_of_getElem? (i := 112) rfl)) rfl
theorem zm4_113 : (Cond.methodLink "HourClockModel" (110 : Nat) ({ cls := "HourClockModel", name := "in", desc := "(III)Z" } : Jvm.MethodName)) ∈ zW := zW_mem (zt_4 (List.mem_of_getElem? (i := 113) rfl)) rfl
theorem zm4_114 : (Cond.static ({ cls := "HourClockModel", name := "in", desc := "(III)Z" } : Jvm.MethodName)) ∈ zW := zW_mem (zt_4 (List.mem_of_getElem? (i := 114) rfl)) rfl
theorem zm4_115 : (Cond.code ({ cls := "HourClockModel", name := "in", desc := "(III)Z" } : Jvm.MethodName) prog_9_method_3_code (3 : Nat) (Option.some Jvm.ClassFile.FieldType.boolean)) ∈ zW := zW_mem (zt_4 (List.mem_of_getElem? (i := 115) rfl)) rfl
theorem zm4_116 : (Cond.methodLink "HourClockModel" (114 : Nat) ({ cls := "HourClockModel", name := "fails", desc := "(I)I" } : Jvm.MethodName)) ∈ zW := zW_mem (zt_4 (List.mem_of_getElem? (i := 116) rfl)) rfl
theorem zm4_118 : (Cond.instanceMethod ({ cls := "HourClockModel", name := "fails", desc := "(I)I" } : Jvm.MethodName)) ∈ zW := zW_mem (zt_4 (List.mem_of_getElem? (i := 118) rfl)) rfl
theorem zm4_119 : (Cond.code ({ cls := "HourClockModel", name := "fails", desc := "(I)I" } : Jvm.MethodName) prog_9_method_4_code (2 : Nat) (Option.some Jvm.ClassFile.FieldType.int)) ∈ zW := zW_mem (zt_4 (List.mem_of_getElem? (i := 119) rfl)) rfl
theorem zm4_120 : (Cond.methodLink "HourClockModel" (117 : Nat) ({ cls := "HourClockModel", name := "save", desc := "()V" } : Jvm.MethodName)) ∈ zW := zW_mem (zt_4 (List.mem_of_getElem? (i := 120) rfl)) rfl
theorem zm4_122 : (Cond.instanceMethod ({ cls := "HourClockModel", name := "save", desc := "()V" } : Jvm.MethodName)) ∈ zW := zW_mem (zt_4 (List.mem_of_getElem? (i := 122) rfl)) rfl
theorem zm4_123 : (Cond.code ({ cls := "HourClockModel", name := "save", desc := "()V" } : Jvm.MethodName) prog_9_method_7_code (2 : Nat) (Option.none : Option Jvm.ClassFile.FieldType)) ∈ zW := zW_mem (zt_4 (List.mem_of_getElem? (i := 123) rfl)) rfl
theorem zm4_124 : (Cond.methodLink "HourClockModel" (120 : Nat) ({ cls := "HourClockModel", name := "putElement", desc := "(III)V" } : Jvm.MethodName)) ∈ zW := zW_mem (zt_4 (List.mem_of_getElem? (i := 124) rfl)) rfl
theorem zm4_126 : (Cond.instanceMethod ({ cls := "HourClockModel", name := "putElement", desc := "(III)V" } : Jvm.MethodName)) ∈ zW := zW_mem (zt_4 (List.mem_of_getElem? (i := 126) rfl)) rfl
theorem zm4_127 : (Cond.code ({ cls := "HourClockModel", name := "putElement", desc := "(III)V" } : Jvm.MethodName) prog_9_method_35_code (5 : Nat) (Option.none : Option Jvm.ClassFile.FieldType)) ∈ zW := zW_mem (zt_4 (List.mem_of_getElem? (i := 127) rfl)) rfl
theorem zm4_128 : (Cond.methodLink "HourClockLaw" (83 : Nat) ({ cls := "HourClockModel", name := "addFiller", desc := "(I)I" } : Jvm.MethodName)) ∈ zW := zW_mem (zt_4 (List.mem_of_getElem? (i := 128) rfl)) rfl
theorem zm4_129 : (Cond.instanceMethod ({ cls := "HourClockModel", name := "addFiller", desc := "(I)I" } : Jvm.MethodName)) ∈ zW := zW_mem (zt_4 (List.mem_of_getElem? (i := 129) rfl)) rfl
theorem zm4_130 : (Cond.selects "HourClockModel" ({ cls := "HourClockModel", name := "addFiller", desc := "(I)I" } : Jvm.MethodName) ({ cls := "HourClockModel", name := "addFiller", desc := "(I)I" } : Jvm.MethodName)) ∈ zW := zW_mem (zt_4 (List.mem_of_getElem? (i := 130) rfl)) rfl
theorem zm4_131 : (Cond.code ({ cls := "HourClockModel", name := "addFiller", desc := "(I)I" } : Jvm.MethodName) prog_9_method_38_code (2 : Nat) (Option.some Jvm.ClassFile.FieldType.int)) ∈ zW := zW_mem (zt_4 (List.mem_of_getElem? (i := 131) rfl)) rfl
theorem zm4_132 : (Cond.methodLink "HourClockModel" (123 : Nat) ({ cls := "HourClockModel", name := "putFiller", desc := "(I)V" } : Jvm.MethodName)) ∈ zW := zW_mem (zt_4 (List.mem_of_getElem? (i := 132) rfl)) rfl
theorem zm4_134 : (Cond.instanceMethod ({ cls := "HourClockModel", name := "putFiller", desc := "(I)V" } : Jvm.MethodName)) ∈ zW := zW_mem (zt_4 (List.mem_of_getElem? (i := 134) rfl)) rfl
theorem zm4_135 : (Cond.code ({ cls := "HourClockModel", name := "putFiller", desc := "(I)V" } : Jvm.MethodName) prog_9_method_36_code (3 : Nat) (Option.none : Option Jvm.ClassFile.FieldType)) ∈ zW := zW_mem (zt_4 (List.mem_of_getElem? (i := 135) rfl)) rfl
theorem zm4_136 : (Cond.methodLink "HourClockLaw" (87 : Nat) ({ cls := "HourClockModel", name := "stretch", desc := "(II)I" } : Jvm.MethodName)) ∈ zW := zW_mem (zt_4 (List.mem_of_getElem? (i := 136) rfl)) rfl
theorem zm4_137 : (Cond.instanceMethod ({ cls := "HourClockModel", name := "stretch", desc := "(II)I" } : Jvm.MethodName)) ∈ zW := zW_mem (zt_4 (List.mem_of_getElem? (i := 137) rfl)) rfl
theorem zm4_138 : (Cond.selects "HourClockModel" ({ cls := "HourClockModel", name := "stretch", desc := "(II)I" } : Jvm.MethodName) ({ cls := "HourClockModel", name := "stretch", desc := "(II)I" } : Jvm.MethodName)) ∈ zW := zW_mem (zt_4 (List.mem_of_getElem? (i := 138) rfl)) rfl
theorem zm4_139 : (Cond.code ({ cls := "HourClockModel", name := "stretch", desc := "(II)I" } : Jvm.MethodName) prog_9_method_40_code (4 : Nat) (Option.some Jvm.ClassFile.FieldType.int)) ∈ zW := zW_mem (zt_4 (List.mem_of_getElem? (i := 139) rfl)) rfl
theorem zm4_140 : (Cond.methodLink "HourClockModel" (126 : Nat) ({ cls := "HourClockModel", name := "isElement", desc := "(I)Z" } : Jvm.MethodName)) ∈ zW := zW_mem (zt_4 (List.mem_of_getElem? (i := 140) rfl)) rfl
theorem zm4_142 : (Cond.instanceMethod ({ cls := "HourClockModel", name := "isElement", desc := "(I)Z" } : Jvm.MethodName)) ∈ zW := zW_mem (zt_4 (List.mem_of_getElem? (i := 142) rfl)) rfl
theorem zm4_143 : (Cond.code ({ cls := "HourClockModel", name := "isElement", desc := "(I)Z" } : Jvm.MethodName) prog_9_method_8_code (2 : Nat) (Option.some Jvm.ClassFile.FieldType.boolean)) ∈ zW := zW_mem (zt_4 (List.mem_of_getElem? (i := 143) rfl)) rfl
theorem zm4_144 : (Cond.methodLink "HourClockModel" (32 : Nat) ({ cls := "HourClockModel", name := "of", desc := "(II)I" } : Jvm.MethodName)) ∈ zW := zW_mem (zt_4 (List.mem_of_getElem? (i := 144) rfl)) rfl
theorem zm4_146 : (Cond.instanceMethod ({ cls := "HourClockModel", name := "of", desc := "(II)I" } : Jvm.MethodName)) ∈ zW := zW_mem (zt_4 (List.mem_of_getElem? (i := 146) rfl)) rfl
theorem zm4_147 : (Cond.code ({ cls := "HourClockModel", name := "of", desc := "(II)I" } : Jvm.MethodName) prog_9_method_10_code (3 : Nat) (Option.some Jvm.ClassFile.FieldType.int)) ∈ zW := zW_mem (zt_4 (List.mem_of_getElem? (i := 147) rfl)) rfl
theorem zm4_148 : (Cond.methodLink "HourClockModel" (129 : Nat) ({ cls := "HourClockModel", name := "canBe", desc := "(II)Z" } : Jvm.MethodName)) ∈ zW := zW_mem (zt_4 (List.mem_of_getElem? (i := 148) rfl)) rfl
theorem zm4_150 : (Cond.instanceMethod ({ cls := "HourClockModel", name := "canBe", desc := "(II)Z" } : Jvm.MethodName)) ∈ zW := zW_mem (zt_4 (List.mem_of_getElem? (i := 150) rfl)) rfl
theorem zm4_151 : (Cond.code ({ cls := "HourClockModel", name := "canBe", desc := "(II)Z" } : Jvm.MethodName) prog_9_method_39_code (4 : Nat) (Option.some Jvm.ClassFile.FieldType.boolean)) ∈ zW := zW_mem (zt_4 (List.mem_of_getElem? (i := 151) rfl)) rfl
theorem zm4_152 : (Cond.methodLink "HourClockModel" (99 : Nat) ({ cls := "HourClockModel", name := "endsOnAir", desc := "()V" } : Jvm.MethodName)) ∈ zW := zW_mem (zt_4 (List.mem_of_getElem? (i := 152) rfl)) rfl
theorem zm4_154 : (Cond.instanceMethod ({ cls := "HourClockModel", name := "endsOnAir", desc := "()V" } : Jvm.MethodName)) ∈ zW := zW_mem (zt_4 (List.mem_of_getElem? (i := 154) rfl)) rfl
theorem zm4_155 : (Cond.code ({ cls := "HourClockModel", name := "endsOnAir", desc := "()V" } : Jvm.MethodName) prog_9_method_32_code (1 : Nat) (Option.none : Option Jvm.ClassFile.FieldType)) ∈ zW := zW_mem (zt_4 (List.mem_of_getElem? (i := 155) rfl)) rfl
theorem zm4_156 : (Cond.methodLink "HourClockLaw" (90 : Nat) ({ cls := "HourClockModel", name := "drop", desc := "(I)I" } : Jvm.MethodName)) ∈ zW := zW_mem (zt_4 (List.mem_of_getElem? (i := 156) rfl)) rfl
theorem zm4_157 : (Cond.instanceMethod ({ cls := "HourClockModel", name := "drop", desc := "(I)I" } : Jvm.MethodName)) ∈ zW := zW_mem (zt_4 (List.mem_of_getElem? (i := 157) rfl)) rfl
theorem zm4_158 : (Cond.selects "HourClockModel" ({ cls := "HourClockModel", name := "drop", desc := "(I)I" } : Jvm.MethodName) ({ cls := "HourClockModel", name := "drop", desc := "(I)I" } : Jvm.MethodName)) ∈ zW := zW_mem (zt_4 (List.mem_of_getElem? (i := 158) rfl)) rfl
theorem zm4_159 : (Cond.code ({ cls := "HourClockModel", name := "drop", desc := "(I)I" } : Jvm.MethodName) prog_9_method_42_code (2 : Nat) (Option.some Jvm.ClassFile.FieldType.int)) ∈ zW := zW_mem (zt_4 (List.mem_of_getElem? (i := 159) rfl)) rfl
theorem zm4_160 : (Cond.methodLink "HourClockModel" (36 : Nat) ({ cls := "HourClockModel", name := "waits", desc := "(I)Z" } : Jvm.MethodName)) ∈ zW := zW_mem (zt_4 (List.mem_of_getElem? (i := 160) rfl)) rfl
theorem zm4_162 : (Cond.instanceMethod ({ cls := "HourClockModel", name := "waits", desc := "(I)Z" } : Jvm.MethodName)) ∈ zW := zW_mem (zt_4 (List.mem_of_getElem? (i := 162) rfl)) rfl
theorem zm4_163 : (Cond.code ({ cls := "HourClockModel", name := "waits", desc := "(I)Z" } : Jvm.MethodName) prog_9_method_12_code (2 : Nat) (Option.some Jvm.ClassFile.FieldType.boolean)) ∈ zW := zW_mem (zt_4 (List.mem_of_getElem? (i := 163) rfl)) rfl
theorem zm4_164 : (Cond.methodLink "HourClockModel" (77 : Nat) ({ cls := "HourClockModel", name := "lets", desc := "(I)V" } : Jvm.MethodName)) ∈ zW := zW_mem (zt_4 (List.mem_of_getElem? (i := 164) rfl)) rfl
theorem zm4_166 : (Cond.instanceMethod ({ cls := "HourClockModel", name := "lets", desc := "(I)V" } : Jvm.MethodName)) ∈ zW := zW_mem (zt_4 (List.mem_of_getElem? (i := 166) rfl)) rfl
theorem zm4_167 : (Cond.code ({ cls := "HourClockModel", name := "lets", desc := "(I)V" } : Jvm.MethodName) prog_9_method_22_code (2 : Nat) (Option.none : Option Jvm.ClassFile.FieldType)) ∈ zW := zW_mem (zt_4 (List.mem_of_getElem? (i := 167) rfl)) rfl
theorem zm4_168 : (Cond.methodLink "HourClockModel" (50 : Nat) ({ cls := "HourClockModel", name := "logs", desc := "(II)V" } : Jvm.MethodName)) ∈ zW := zW_mem (zt_4 (List.mem_of_getElem? (i := 168) rfl)) rfl
theorem zm4_170 : (Cond.instanceMethod ({ cls := "HourClockModel", name := "logs", desc := "(II)V" } : Jvm.MethodName)) ∈ zW := zW_mem (zt_4 (List.mem_of_getElem? (i := 170) rfl)) rfl
theorem zm4_171 : (Cond.code ({ cls := "HourClockModel", name := "logs", desc := "(II)V" } : Jvm.MethodName) prog_9_method_21_code (4 : Nat) (Option.none : Option Jvm.ClassFile.FieldType)) ∈ zW := zW_mem (zt_4 (List.mem_of_getElem? (i := 171) rfl)) rfl
theorem zm4_172 : (Cond.methodLink "HourClockModel" (133 : Nat) ({ cls := "HourClockModel", name := "inStatus", desc := "(I)I" } : Jvm.MethodName)) ∈ zW := zW_mem (zt_4 (List.mem_of_getElem? (i := 172) rfl)) rfl
theorem zm4_174 : (Cond.instanceMethod ({ cls := "HourClockModel", name := "inStatus", desc := "(I)I" } : Jvm.MethodName)) ∈ zW := zW_mem (zt_4 (List.mem_of_getElem? (i := 174) rfl)) rfl
theorem zm4_175 : (Cond.code ({ cls := "HourClockModel", name := "inStatus", desc := "(I)I" } : Jvm.MethodName) prog_9_method_41_code (4 : Nat) (Option.some Jvm.ClassFile.FieldType.int)) ∈ zW := zW_mem (zt_4 (List.mem_of_getElem? (i := 175) rfl)) rfl
theorem zm4_176 : (Cond.methodLink "HourClockLaw" (93 : Nat) ({ cls := "HourClockModel", name := "pass", desc := "(I)I" } : Jvm.MethodName)) ∈ zW := zW_mem (zt_4 (List.mem_of_getElem? (i := 176) rfl)) rfl
theorem zm4_177 : (Cond.instanceMethod ({ cls := "HourClockModel", name := "pass", desc := "(I)I" } : Jvm.MethodName)) ∈ zW := zW_mem (zt_4 (List.mem_of_getElem? (i := 177) rfl)) rfl
theorem zm4_178 : (Cond.selects "HourClockModel" ({ cls := "HourClockModel", name := "pass", desc := "(I)I" } : Jvm.MethodName) ({ cls := "HourClockModel", name := "pass", desc := "(I)I" } : Jvm.MethodName)) ∈ zW := zW_mem (zt_4 (List.mem_of_getElem? (i := 178) rfl)) rfl
theorem zm4_179 : (Cond.code ({ cls := "HourClockModel", name := "pass", desc := "(I)I" } : Jvm.MethodName) prog_9_method_43_code (2 : Nat) (Option.some Jvm.ClassFile.FieldType.int)) ∈ zW := zW_mem (zt_4 (List.mem_of_getElem? (i := 179) rfl)) rfl
theorem zm4_180 : (Cond.methodLink "HourClockModel" (107 : Nat) ({ cls := "HourClockModel", name := "goesOn", desc := "(I)I" } : Jvm.MethodName)) ∈ zW := zW_mem (zt_4 (List.mem_of_getElem? (i := 180) rfl)) rfl
theorem zm4_182 : (Cond.instanceMethod ({ cls := "HourClockModel", name := "goesOn", desc := "(I)I" } : Jvm.MethodName)) ∈ zW := zW_mem (zt_4 (List.mem_of_getElem? (i := 182) rfl)) rfl
theorem zm4_183 : (Cond.code ({ cls := "HourClockModel", name := "goesOn", desc := "(I)I" } : Jvm.MethodName) prog_9_method_33_code (4 : Nat) (Option.some Jvm.ClassFile.FieldType.int)) ∈ zW := zW_mem (zt_4 (List.mem_of_getElem? (i := 183) rfl)) rfl
theorem zm4_184 : (Cond.methodLink "HourClockModel" (96 : Nat) ({ cls := "HourClockModel", name := "finds", desc := "()V" } : Jvm.MethodName)) ∈ zW := zW_mem (zt_4 (List.mem_of_getElem? (i := 184) rfl)) rfl
theorem zm4_186 : (Cond.instanceMethod ({ cls := "HourClockModel", name := "finds", desc := "()V" } : Jvm.MethodName)) ∈ zW := zW_mem (zt_4 (List.mem_of_getElem? (i := 186) rfl)) rfl
theorem zm4_187 : (Cond.code ({ cls := "HourClockModel", name := "finds", desc := "()V" } : Jvm.MethodName) prog_9_method_31_code (6 : Nat) (Option.none : Option Jvm.ClassFile.FieldType)) ∈ zW := zW_mem (zt_4 (List.mem_of_getElem? (i := 187) rfl)) rfl
theorem zm4_188 : (Cond.methodLink "HourClockModel" (43 : Nat) ({ cls := "HourClockModel", name := "nextFixed", desc := "(I)I" } : Jvm.MethodName)) ∈ zW := zW_mem (zt_4 (List.mem_of_getElem? (i := 188) rfl)) rfl
theorem zm4_190 : (Cond.instanceMethod ({ cls := "HourClockModel", name := "nextFixed", desc := "(I)I" } : Jvm.MethodName)) ∈ zW := zW_mem (zt_4 (List.mem_of_getElem? (i := 190) rfl)) rfl
theorem zm4_191 : (Cond.code ({ cls := "HourClockModel", name := "nextFixed", desc := "(I)I" } : Jvm.MethodName) prog_9_method_14_code (3 : Nat) (Option.some Jvm.ClassFile.FieldType.int)) ∈ zW := zW_mem (zt_4 (List.mem_of_getElem? (i := 191) rfl)) rfl
theorem zm4_192 : (Cond.methodLink "HourClockModel" (40 : Nat) ({ cls := "HourClockModel", name := "isFixed", desc := "(I)Z" } : Jvm.MethodName)) ∈ zW := zW_mem (zt_4 (List.mem_of_getElem? (i := 192) rfl)) rfl
theorem zm4_194 : (Cond.instanceMethod ({ cls := "HourClockModel", name := "isFixed", desc := "(I)Z" } : Jvm.MethodName)) ∈ zW := zW_mem (zt_4 (List.mem_of_getElem? (i := 194) rfl)) rfl
theorem zm4_195 : (Cond.code ({ cls := "HourClockModel", name := "isFixed", desc := "(I)Z" } : Jvm.MethodName) prog_9_method_13_code (2 : Nat) (Option.some Jvm.ClassFile.FieldType.boolean)) ∈ zW := zW_mem (zt_4 (List.mem_of_getElem? (i := 195) rfl)) rfl
theorem zm4_196 : (Cond.methodLink "HourClockModel" (47 : Nat) ({ cls := "HourClockModel", name := "timeAt", desc := "(I)I" } : Jvm.MethodName)) ∈ zW := zW_mem (zt_4 (List.mem_of_getElem? (i := 196) rfl)) rfl
theorem zm4_198 : (Cond.instanceMethod ({ cls := "HourClockModel", name := "timeAt", desc := "(I)I" } : Jvm.MethodName)) ∈ zW := zW_mem (zt_4 (List.mem_of_getElem? (i := 198) rfl)) rfl
theorem zm4_199 : (Cond.code ({ cls := "HourClockModel", name := "timeAt", desc := "(I)I" } : Jvm.MethodName) prog_9_method_15_code (2 : Nat) (Option.some Jvm.ClassFile.FieldType.int)) ∈ zW := zW_mem (zt_4 (List.mem_of_getElem? (i := 199) rfl)) rfl
theorem zm4_200 : (Cond.methodLink "HourClockModel" (71 : Nat) ({ cls := "HourClockModel", name := "lowest", desc := "(I)I" } : Jvm.MethodName)) ∈ zW := zW_mem (zt_4 (List.mem_of_getElem? (i := 200) rfl)) rfl
theorem zm4_202 : (Cond.instanceMethod ({ cls := "HourClockModel", name := "lowest", desc := "(I)I" } : Jvm.MethodName)) ∈ zW := zW_mem (zt_4 (List.mem_of_getElem? (i := 202) rfl)) rfl
theorem zm4_203 : (Cond.code ({ cls := "HourClockModel", name := "lowest", desc := "(I)I" } : Jvm.MethodName) prog_9_method_19_code (5 : Nat) (Option.some Jvm.ClassFile.FieldType.int)) ∈ zW := zW_mem (zt_4 (List.mem_of_getElem? (i := 203) rfl)) rfl
theorem zm4_204 : (Cond.methodLink "HourClockModel" (74 : Nat) ({ cls := "HourClockModel", name := "sectionLength", desc := "(I)I" } : Jvm.MethodName)) ∈ zW := zW_mem (zt_4 (List.mem_of_getElem? (i := 204) rfl)) rfl
theorem zm4_206 : (Cond.instanceMethod ({ cls := "HourClockModel", name := "sectionLength", desc := "(I)I" } : Jvm.MethodName)) ∈ zW := zW_mem (zt_4 (List.mem_of_getElem? (i := 206) rfl)) rfl
theorem zm4_207 : (Cond.code ({ cls := "HourClockModel", name := "sectionLength", desc := "(I)I" } : Jvm.MethodName) prog_9_method_18_code (4 : Nat) (Option.some Jvm.ClassFile.FieldType.int)) ∈ zW := zW_mem (zt_4 (List.mem_of_getElem? (i := 207) rfl)) rfl
theorem zm4_208 : (Cond.methodLink "HourClockModel" (81 : Nat) ({ cls := "HourClockModel", name := "firstWaiting", desc := "(I)I" } : Jvm.MethodName)) ∈ zW := zW_mem (zt_4 (List.mem_of_getElem? (i := 208) rfl)) rfl
theorem zm4_210 : (Cond.instanceMethod ({ cls := "HourClockModel", name := "firstWaiting", desc := "(I)I" } : Jvm.MethodName)) ∈ zW := zW_mem (zt_4 (List.mem_of_getElem? (i := 210) rfl)) rfl
theorem zm4_211 : (Cond.code ({ cls := "HourClockModel", name := "firstWaiting", desc := "(I)I" } : Jvm.MethodName) prog_9_method_20_code (3 : Nat) (Option.some Jvm.ClassFile.FieldType.int)) ∈ zW := zW_mem (zt_4 (List.mem_of_getElem? (i := 211) rfl)) rfl
theorem zm4_212 : (Cond.methodLink "HourClockModel" (84 : Nat) ({ cls := "HourClockModel", name := "beginsElement", desc := "(I)V" } : Jvm.MethodName)) ∈ zW := zW_mem (zt_4 (List.mem_of_getElem? (i := 212) rfl)) rfl
theorem zm4_214 : (Cond.instanceMethod ({ cls := "HourClockModel", name := "beginsElement", desc := "(I)V" } : Jvm.MethodName)) ∈ zW := zW_mem (zt_4 (List.mem_of_getElem? (i := 214) rfl)) rfl
theorem zm4_215 : (Cond.code ({ cls := "HourClockModel", name := "beginsElement", desc := "(I)V" } : Jvm.MethodName) prog_9_method_24_code (2 : Nat) (Option.none : Option Jvm.ClassFile.FieldType)) ∈ zW := zW_mem (zt_4 (List.mem_of_getElem? (i := 215) rfl)) rfl
theorem zm4_216 : (Cond.methodLink "HourClockModel" (54 : Nat) ({ cls := "HourClockModel", name := "goesOnAir", desc := "(III)V" } : Jvm.MethodName)) ∈ zW := zW_mem (zt_4 (List.mem_of_getElem? (i := 216) rfl)) rfl
theorem zm4_218 : (Cond.instanceMethod ({ cls := "HourClockModel", name := "goesOnAir", desc := "(III)V" } : Jvm.MethodName)) ∈ zW := zW_mem (zt_4 (List.mem_of_getElem? (i := 218) rfl)) rfl
theorem zm4_219 : (Cond.code ({ cls := "HourClockModel", name := "goesOnAir", desc := "(III)V" } : Jvm.MethodName) prog_9_method_23_code (4 : Nat) (Option.none : Option Jvm.ClassFile.FieldType)) ∈ zW := zW_mem (zt_4 (List.mem_of_getElem? (i := 219) rfl)) rfl
theorem zm4_220 : (Cond.methodLink "HourClockModel" (87 : Nat) ({ cls := "HourClockModel", name := "chosen", desc := "(I)I" } : Jvm.MethodName)) ∈ zW := zW_mem (zt_4 (List.mem_of_getElem? (i := 220) rfl)) rfl
theorem zm4_222 : (Cond.instanceMethod ({ cls := "HourClockModel", name := "chosen", desc := "(I)I" } : Jvm.MethodName)) ∈ zW := zW_mem (zt_4 (List.mem_of_getElem? (i := 222) rfl)) rfl
theorem zm4_223 : (Cond.code ({ cls := "HourClockModel", name := "chosen", desc := "(I)I" } : Jvm.MethodName) prog_9_method_29_code (8 : Nat) (Option.some Jvm.ClassFile.FieldType.int)) ∈ zW := zW_mem (zt_4 (List.mem_of_getElem? (i := 223) rfl)) rfl
theorem zm4_224 : (Cond.methodLink "HourClockModel" (61 : Nat) ({ cls := "HourClockModel", name := "waitingFillers", desc := "()I" } : Jvm.MethodName)) ∈ zW := zW_mem (zt_4 (List.mem_of_getElem? (i := 224) rfl)) rfl
theorem zm4_226 : (Cond.instanceMethod ({ cls := "HourClockModel", name := "waitingFillers", desc := "()I" } : Jvm.MethodName)) ∈ zW := zW_mem (zt_4 (List.mem_of_getElem? (i := 226) rfl)) rfl
theorem zm4_227 : (Cond.code ({ cls := "HourClockModel", name := "waitingFillers", desc := "()I" } : Jvm.MethodName) prog_9_method_27_code (3 : Nat) (Option.some Jvm.ClassFile.FieldType.int)) ∈ zW := zW_mem (zt_4 (List.mem_of_getElem? (i := 227) rfl)) rfl
theorem zm4_228 : (Cond.methodLink "HourClockModel" (58 : Nat) ({ cls := "HourClockModel", name := "ofFiller", desc := "(II)I" } : Jvm.MethodName)) ∈ zW := zW_mem (zt_4 (List.mem_of_getElem? (i := 228) rfl)) rfl
theorem zm4_230 : (Cond.instanceMethod ({ cls := "HourClockModel", name := "ofFiller", desc := "(II)I" } : Jvm.MethodName)) ∈ zW := zW_mem (zt_4 (List.mem_of_getElem? (i := 230) rfl)) rfl
theorem zm4_231 : (Cond.code ({ cls := "HourClockModel", name := "ofFiller", desc := "(II)I" } : Jvm.MethodName) prog_9_method_11_code (3 : Nat) (Option.some Jvm.ClassFile.FieldType.int)) ∈ zW := zW_mem (zt_4 (List.mem_of_getElem? (i := 231) rfl)) rfl
theorem zm4_232 : (Cond.methodLink "HourClockModel" (65 : Nat) ({ cls := "HourClockModel", name := "lengthOf", desc := "(I)I" } : Jvm.MethodName)) ∈ zW := zW_mem (zt_4 (List.mem_of_getElem? (i := 232) rfl)) rfl
theorem zm4_234 : (Cond.instanceMethod ({ cls := "HourClockModel", name := "lengthOf", desc := "(I)I" } : Jvm.MethodName)) ∈ zW := zW_mem (zt_4 (List.mem_of_getElem? (i := 234) rfl)) rfl
theorem zm4_235 : (Cond.code ({ cls := "HourClockModel", name := "lengthOf", desc := "(I)I" } : Jvm.MethodName) prog_9_method_28_code (4 : Nat) (Option.some Jvm.ClassFile.FieldType.int)) ∈ zW := zW_mem (zt_4 (List.mem_of_getElem? (i := 235) rfl)) rfl
theorem zm4_236 : (Cond.methodLink "HourClockModel" (68 : Nat) ({ cls := "HourClockModel", name := "ones", desc := "(I)I" } : Jvm.MethodName)) ∈ zW := zW_mem (zt_4 (List.mem_of_getElem? (i := 236) rfl)) rfl
theorem zm4_237 : (Cond.static ({ cls := "HourClockModel", name := "ones", desc := "(I)I" } : Jvm.MethodName)) ∈ zW := zW_mem (zt_4 (List.mem_of_getElem? (i := 237) rfl)) rfl
theorem zm4_238 : (Cond.code ({ cls := "HourClockModel", name := "ones", desc := "(I)I" } : Jvm.MethodName) prog_9_method_26_code (3 : Nat) (Option.some Jvm.ClassFile.FieldType.int)) ∈ zW := zW_mem (zt_4 (List.mem_of_getElem? (i := 238) rfl)) rfl
theorem zm4_239 : (Cond.methodLink "HourClockModel" (90 : Nat) ({ cls := "HourClockModel", name := "lowestOf", desc := "(I)I" } : Jvm.MethodName)) ∈ zW := zW_mem (zt_4 (List.mem_of_getElem? (i := 239) rfl)) rfl
theorem zm5_0 : (Cond.static ({ cls := "HourClockModel", name := "lowestOf", desc := "(I)I" } : Jvm.MethodName)) ∈ zW := zW_mem (zt_5 (List.mem_of_getElem? (i := 0) rfl)) rfl
theorem zm5_1 : (Cond.code ({ cls := "HourClockModel", name := "lowestOf", desc := "(I)I" } : Jvm.MethodName) prog_9_method_30_code (2 : Nat) (Option.some Jvm.ClassFile.FieldType.int)) ∈ zW := zW_mem (zt_5 (List.mem_of_getElem? (i := 1) rfl)) rfl
theorem zm5_2 : (Cond.methodLink "HourClockModel" (93 : Nat) ({ cls := "HourClockModel", name := "beginsFiller", desc := "(I)V" } : Jvm.MethodName)) ∈ zW := zW_mem (zt_5 (List.mem_of_getElem? (i := 2) rfl)) rfl
theorem zm5_4 : (Cond.instanceMethod ({ cls := "HourClockModel", name := "beginsFiller", desc := "(I)V" } : Jvm.MethodName)) ∈ zW := zW_mem (zt_5 (List.mem_of_getElem? (i := 4) rfl)) rfl
theorem zm5_5 : (Cond.code ({ cls := "HourClockModel", name := "beginsFiller", desc := "(I)V" } : Jvm.MethodName) prog_9_method_25_code (2 : Nat) (Option.none : Option Jvm.ClassFile.FieldType)) ∈ zW := zW_mem (zt_5 (List.mem_of_getElem? (i := 5) rfl)) rfl
theorem zm5_6 : (Cond.methodLink "HourClockLaw" (97 : Nat) ({ cls := "HourClockModel", name := "finish", desc := "()I" } : Jvm.MethodName)) ∈ zW := zW_mem (zt_5 (List.mem_of_getElem? (i := 6) rfl)) rfl
theorem zm5_7 : (Cond.instanceMethod ({ cls := "HourClockModel", name := "finish", desc := "()I" } : Jvm.MethodName)) ∈ zW := zW_mem (zt_5 (List.mem_of_getElem? (i := 7) rfl)) rfl
theorem zm5_8 : (Cond.selects "HourClockModel" ({ cls := "HourClockModel", name := "finish", desc := "()I" } : Jvm.MethodName) ({ cls := "HourClockModel", name := "finish", desc := "()I" } : Jvm.MethodName)) ∈ zW := zW_mem (zt_5 (List.mem_of_getElem? (i := 8) rfl)) rfl
theorem zm5_9 : (Cond.code ({ cls := "HourClockModel", name := "finish", desc := "()I" } : Jvm.MethodName) prog_9_method_44_code (2 : Nat) (Option.some Jvm.ClassFile.FieldType.int)) ∈ zW := zW_mem (zt_5 (List.mem_of_getElem? (i := 9) rfl)) rfl
theorem zm5_10 : (Cond.constant "HourClockModel" (106 : Nat) (100000000 : Int32)) ∈ zW := zW_mem (zt_5 (List.mem_of_getElem? (i := 10) rfl)) rfl
theorem zm5_11 : (Cond.methodLink "HourClockLaw" (101 : Nat) ({ cls := "HourClockModel", name := "again", desc := "()I" } : Jvm.MethodName)) ∈ zW := zW_mem (zt_5 (List.mem_of_getElem? (i := 11) rfl)) rfl
theorem zm5_12 : (Cond.instanceMethod ({ cls := "HourClockModel", name := "again", desc := "()I" } : Jvm.MethodName)) ∈ zW := zW_mem (zt_5 (List.mem_of_getElem? (i := 12) rfl)) rfl
theorem zm5_13 : (Cond.selects "HourClockModel" ({ cls := "HourClockModel", name := "again", desc := "()I" } : Jvm.MethodName) ({ cls := "HourClockModel", name := "again", desc := "()I" } : Jvm.MethodName)) ∈ zW := zW_mem (zt_5 (List.mem_of_getElem? (i := 13) rfl)) rfl
theorem zm5_14 : (Cond.code ({ cls := "HourClockModel", name := "again", desc := "()I" } : Jvm.MethodName) prog_9_method_46_code (1 : Nat) (Option.some Jvm.ClassFile.FieldType.int)) ∈ zW := zW_mem (zt_5 (List.mem_of_getElem? (i := 14) rfl)) rfl
theorem zm5_15 : (Cond.methodLink "HourClockModel" (136 : Nat) ({ cls := "HourClockModel", name := "begins", desc := "()V" } : Jvm.MethodName)) ∈ zW := zW_mem (zt_5 (List.mem_of_getElem? (i := 15) rfl)) rfl
theorem zm5_17 : (Cond.instanceMethod ({ cls := "HourClockModel", name := "begins", desc := "()V" } : Jvm.MethodName)) ∈ zW := zW_mem (zt_5 (List.mem_of_getElem? (i := 17) rfl)) rfl
theorem zm5_18 : (Cond.code ({ cls := "HourClockModel", name := "begins", desc := "()V" } : Jvm.MethodName) prog_9_method_45_code (2 : Nat) (Option.none : Option Jvm.ClassFile.FieldType)) ∈ zW := zW_mem (zt_5 (List.mem_of_getElem? (i := 18) rfl)) rfl
theorem zm5_19 : (Cond.methodLink "HourClockLaw" (104 : Nat) ({ cls := "HourClockModel", name := "element", desc := "(II)I" } : Jvm.MethodName)) ∈ zW := zW_mem (zt_5 (List.mem_of_getElem? (i := 19) rfl)) rfl
theorem zm5_20 : (Cond.instanceMethod ({ cls := "HourClockModel", name := "element", desc := "(II)I" } : Jvm.MethodName)) ∈ zW := zW_mem (zt_5 (List.mem_of_getElem? (i := 20) rfl)) rfl
theorem zm5_21 : (Cond.selects "HourClockModel" ({ cls := "HourClockModel", name := "element", desc := "(II)I" } : Jvm.MethodName) ({ cls := "HourClockModel", name := "element", desc := "(II)I" } : Jvm.MethodName)) ∈ zW := zW_mem (zt_5 (List.mem_of_getElem? (i := 21) rfl)) rfl
theorem zm5_22 : (Cond.code ({ cls := "HourClockModel", name := "element", desc := "(II)I" } : Jvm.MethodName) prog_9_method_49_code (3 : Nat) (Option.some Jvm.ClassFile.FieldType.int)) ∈ zW := zW_mem (zt_5 (List.mem_of_getElem? (i := 22) rfl)) rfl
theorem zm5_23 : (Cond.methodLink "HourClockModel" (145 : Nat) ({ cls := "HourClockModel", name := "elementOf", desc := "(II)I" } : Jvm.MethodName)) ∈ zW := zW_mem (zt_5 (List.mem_of_getElem? (i := 23) rfl)) rfl
theorem zm5_25 : (Cond.instanceMethod ({ cls := "HourClockModel", name := "elementOf", desc := "(II)I" } : Jvm.MethodName)) ∈ zW := zW_mem (zt_5 (List.mem_of_getElem? (i := 25) rfl)) rfl
theorem zm5_26 : (Cond.code ({ cls := "HourClockModel", name := "elementOf", desc := "(II)I" } : Jvm.MethodName) prog_9_method_48_code (3 : Nat) (Option.some Jvm.ClassFile.FieldType.int)) ∈ zW := zW_mem (zt_5 (List.mem_of_getElem? (i := 26) rfl)) rfl
theorem zm5_27 : (Cond.methodLink "HourClockModel" (139 : Nat) ({ cls := "HourClockModel", name := "latenessOf", desc := "(I)I" } : Jvm.MethodName)) ∈ zW := zW_mem (zt_5 (List.mem_of_getElem? (i := 27) rfl)) rfl
theorem zm5_29 : (Cond.instanceMethod ({ cls := "HourClockModel", name := "latenessOf", desc := "(I)I" } : Jvm.MethodName)) ∈ zW := zW_mem (zt_5 (List.mem_of_getElem? (i := 29) rfl)) rfl
theorem zm5_30 : (Cond.code ({ cls := "HourClockModel", name := "latenessOf", desc := "(I)I" } : Jvm.MethodName) prog_9_method_47_code (2 : Nat) (Option.some Jvm.ClassFile.FieldType.int)) ∈ zW := zW_mem (zt_5 (List.mem_of_getElem? (i := 30) rfl)) rfl
theorem zm5_31 : (Cond.methodLink "HourClockModel" (142 : Nat) ({ cls := "HourClockModel", name := "isInSection", desc := "(I)Z" } : Jvm.MethodName)) ∈ zW := zW_mem (zt_5 (List.mem_of_getElem? (i := 31) rfl)) rfl
theorem zm5_33 : (Cond.instanceMethod ({ cls := "HourClockModel", name := "isInSection", desc := "(I)Z" } : Jvm.MethodName)) ∈ zW := zW_mem (zt_5 (List.mem_of_getElem? (i := 33) rfl)) rfl
theorem zm5_34 : (Cond.code ({ cls := "HourClockModel", name := "isInSection", desc := "(I)Z" } : Jvm.MethodName) prog_9_method_17_code (2 : Nat) (Option.some Jvm.ClassFile.FieldType.boolean)) ∈ zW := zW_mem (zt_5 (List.mem_of_getElem? (i := 34) rfl)) rfl
theorem zm5_35 : (Cond.methodLink "HourClockModel" (148 : Nat) ({ cls := "HourClockModel", name := "tells", desc := "(I)I" } : Jvm.MethodName)) ∈ zW := zW_mem (zt_5 (List.mem_of_getElem? (i := 35) rfl)) rfl
theorem zm5_37 : (Cond.instanceMethod ({ cls := "HourClockModel", name := "tells", desc := "(I)I" } : Jvm.MethodName)) ∈ zW := zW_mem (zt_5 (List.mem_of_getElem? (i := 37) rfl)) rfl
theorem zm5_38 : (Cond.code ({ cls := "HourClockModel", name := "tells", desc := "(I)I" } : Jvm.MethodName) prog_9_method_5_code (2 : Nat) (Option.some Jvm.ClassFile.FieldType.int)) ∈ zW := zW_mem (zt_5 (List.mem_of_getElem? (i := 38) rfl)) rfl
theorem zm5_39 : (Cond.methodLink "HourClockLaw" (107 : Nat) ({ cls := "HourClockModel", name := "filler", desc := "(II)I" } : Jvm.MethodName)) ∈ zW := zW_mem (zt_5 (List.mem_of_getElem? (i := 39) rfl)) rfl
theorem zm5_40 : (Cond.instanceMethod ({ cls := "HourClockModel", name := "filler", desc := "(II)I" } : Jvm.MethodName)) ∈ zW := zW_mem (zt_5 (List.mem_of_getElem? (i := 40) rfl)) rfl
theorem zm5_41 : (Cond.selects "HourClockModel" ({ cls := "HourClockModel", name := "filler", desc := "(II)I" } : Jvm.MethodName) ({ cls := "HourClockModel", name := "filler", desc := "(II)I" } : Jvm.MethodName)) ∈ zW := zW_mem (zt_5 (List.mem_of_getElem? (i := 41) rfl)) rfl
theorem zm5_42 : (Cond.code ({ cls := "HourClockModel", name := "filler", desc := "(II)I" } : Jvm.MethodName) prog_9_method_50_code (3 : Nat) (Option.some Jvm.ClassFile.FieldType.int)) ∈ zW := zW_mem (zt_5 (List.mem_of_getElem? (i := 42) rfl)) rfl
theorem zm5_43 : (Cond.methodLink "HourClockModel" (151 : Nat) ({ cls := "HourClockModel", name := "isFiller", desc := "(I)Z" } : Jvm.MethodName)) ∈ zW := zW_mem (zt_5 (List.mem_of_getElem? (i := 43) rfl)) rfl
theorem zm5_45 : (Cond.instanceMethod ({ cls := "HourClockModel", name := "isFiller", desc := "(I)Z" } : Jvm.MethodName)) ∈ zW := zW_mem (zt_5 (List.mem_of_getElem? (i := 45) rfl)) rfl
theorem zm5_46 : (Cond.code ({ cls := "HourClockModel", name := "isFiller", desc := "(I)Z" } : Jvm.MethodName) prog_9_method_9_code (2 : Nat) (Option.some Jvm.ClassFile.FieldType.boolean)) ∈ zW := zW_mem (zt_5 (List.mem_of_getElem? (i := 46) rfl)) rfl
theorem zm5_47 : (Cond.methodLink "HourClockLaw" (110 : Nat) ({ cls := "HourClockModel", name := "value", desc := "(I)I" } : Jvm.MethodName)) ∈ zW := zW_mem (zt_5 (List.mem_of_getElem? (i := 47) rfl)) rfl
theorem zm5_48 : (Cond.instanceMethod ({ cls := "HourClockModel", name := "value", desc := "(I)I" } : Jvm.MethodName)) ∈ zW := zW_mem (zt_5 (List.mem_of_getElem? (i := 48) rfl)) rfl
theorem zm5_49 : (Cond.selects "HourClockModel" ({ cls := "HourClockModel", name := "value", desc := "(I)I" } : Jvm.MethodName) ({ cls := "HourClockModel", name := "value", desc := "(I)I" } : Jvm.MethodName)) ∈ zW := zW_mem (zt_5 (List.mem_of_getElem? (i := 49) rfl)) rfl
theorem zm5_50 : (Cond.code ({ cls := "HourClockModel", name := "value", desc := "(I)I" } : Jvm.MethodName) prog_9_method_53_code (2 : Nat) (Option.some Jvm.ClassFile.FieldType.int)) ∈ zW := zW_mem (zt_5 (List.mem_of_getElem? (i := 50) rfl)) rfl
theorem zm5_51 : (Cond.methodLink "HourClockModel" (160 : Nat) ({ cls := "HourClockModel", name := "valueOf", desc := "(I)I" } : Jvm.MethodName)) ∈ zW := zW_mem (zt_5 (List.mem_of_getElem? (i := 51) rfl)) rfl
theorem zm5_53 : (Cond.instanceMethod ({ cls := "HourClockModel", name := "valueOf", desc := "(I)I" } : Jvm.MethodName)) ∈ zW := zW_mem (zt_5 (List.mem_of_getElem? (i := 53) rfl)) rfl
theorem zm5_54 : (Cond.code ({ cls := "HourClockModel", name := "valueOf", desc := "(I)I" } : Jvm.MethodName) prog_9_method_52_code (2 : Nat) (Option.some Jvm.ClassFile.FieldType.int)) ∈ zW := zW_mem (zt_5 (List.mem_of_getElem? (i := 54) rfl)) rfl
theorem zm5_55 : (Cond.methodLink "HourClockModel" (154 : Nat) ({ cls := "HourClockModel", name := "goal", desc := "()I" } : Jvm.MethodName)) ∈ zW := zW_mem (zt_5 (List.mem_of_getElem? (i := 55) rfl)) rfl
theorem zm5_57 : (Cond.instanceMethod ({ cls := "HourClockModel", name := "goal", desc := "()I" } : Jvm.MethodName)) ∈ zW := zW_mem (zt_5 (List.mem_of_getElem? (i := 57) rfl)) rfl
theorem zm5_58 : (Cond.code ({ cls := "HourClockModel", name := "goal", desc := "()I" } : Jvm.MethodName) prog_9_method_16_code (1 : Nat) (Option.some Jvm.ClassFile.FieldType.int)) ∈ zW := zW_mem (zt_5 (List.mem_of_getElem? (i := 58) rfl)) rfl
theorem zm5_59 : (Cond.methodLink "HourClockModel" (157 : Nat) ({ cls := "HourClockModel", name := "greatest", desc := "()I" } : Jvm.MethodName)) ∈ zW := zW_mem (zt_5 (List.mem_of_getElem? (i := 59) rfl)) rfl
theorem zm5_61 : (Cond.instanceMethod ({ cls := "HourClockModel", name := "greatest", desc := "()I" } : Jvm.MethodName)) ∈ zW := zW_mem (zt_5 (List.mem_of_getElem? (i := 61) rfl)) rfl
theorem zm5_62 : (Cond.code ({ cls := "HourClockModel", name := "greatest", desc := "()I" } : Jvm.MethodName) prog_9_method_51_code (3 : Nat) (Option.some Jvm.ClassFile.FieldType.int)) ∈ zW := zW_mem (zt_5 (List.mem_of_getElem? (i := 62) rfl)) rfl
theorem zm5_63 : (Cond.methodLink "HourClockLaw" (113 : Nat) ({ cls := "HourClockModel", name := "entry", desc := "(II)I" } : Jvm.MethodName)) ∈ zW := zW_mem (zt_5 (List.mem_of_getElem? (i := 63) rfl)) rfl
theorem zm5_64 : (Cond.instanceMethod ({ cls := "HourClockModel", name := "entry", desc := "(II)I" } : Jvm.MethodName)) ∈ zW := zW_mem (zt_5 (List.mem_of_getElem? (i := 64) rfl)) rfl
theorem zm5_65 : (Cond.selects "HourClockModel" ({ cls := "HourClockModel", name := "entry", desc := "(II)I" } : Jvm.MethodName) ({ cls := "HourClockModel", name := "entry", desc := "(II)I" } : Jvm.MethodName)) ∈ zW := zW_mem (zt_5 (List.mem_of_getElem? (i := 65) rfl)) rfl
theorem zm5_66 : (Cond.code ({ cls := "HourClockModel", name := "entry", desc := "(II)I" } : Jvm.MethodName) prog_9_method_54_code (3 : Nat) (Option.some Jvm.ClassFile.FieldType.int)) ∈ zW := zW_mem (zt_5 (List.mem_of_getElem? (i := 66) rfl)) rfl
theorem zm5_67 : (Cond.methodLink "HourClockLaw" (116 : Nat) ({ cls := "HourClockModel", name := "backTime", desc := "(I)I" } : Jvm.MethodName)) ∈ zW := zW_mem (zt_5 (List.mem_of_getElem? (i := 67) rfl)) rfl
theorem zm5_68 : (Cond.instanceMethod ({ cls := "HourClockModel", name := "backTime", desc := "(I)I" } : Jvm.MethodName)) ∈ zW := zW_mem (zt_5 (List.mem_of_getElem? (i := 68) rfl)) rfl
theorem zm5_69 : (Cond.selects "HourClockModel" ({ cls := "HourClockModel", name := "backTime", desc := "(I)I" } : Jvm.MethodName) ({ cls := "HourClockModel", name := "backTime", desc := "(I)I" } : Jvm.MethodName)) ∈ zW := zW_mem (zt_5 (List.mem_of_getElem? (i := 69) rfl)) rfl
theorem zm5_70 : (Cond.code ({ cls := "HourClockModel", name := "backTime", desc := "(I)I" } : Jvm.MethodName) prog_9_method_56_code (2 : Nat) (Option.some Jvm.ClassFile.FieldType.int)) ∈ zW := zW_mem (zt_5 (List.mem_of_getElem? (i := 70) rfl)) rfl
theorem zm5_71 : (Cond.methodLink "HourClockModel" (163 : Nat) ({ cls := "HourClockModel", name := "backOf", desc := "(I)I" } : Jvm.MethodName)) ∈ zW := zW_mem (zt_5 (List.mem_of_getElem? (i := 71) rfl)) rfl
theorem zm5_73 : (Cond.instanceMethod ({ cls := "HourClockModel", name := "backOf", desc := "(I)I" } : Jvm.MethodName)) ∈ zW := zW_mem (zt_5 (List.mem_of_getElem? (i := 73) rfl)) rfl
theorem zm5_74 : (Cond.code ({ cls := "HourClockModel", name := "backOf", desc := "(I)I" } : Jvm.MethodName) prog_9_method_55_code (5 : Nat) (Option.some Jvm.ClassFile.FieldType.int)) ∈ zW := zW_mem (zt_5 (List.mem_of_getElem? (i := 74) rfl)) rfl
theorem zm5_75 : (Cond.methodLink "HourClockLaw" (119 : Nat) ({ cls := "HourClockModel", name := "beginOf", desc := "(I)I" } : Jvm.MethodName)) ∈ zW := zW_mem (zt_5 (List.mem_of_getElem? (i := 75) rfl)) rfl
theorem zm5_76 : (Cond.instanceMethod ({ cls := "HourClockModel", name := "beginOf", desc := "(I)I" } : Jvm.MethodName)) ∈ zW := zW_mem (zt_5 (List.mem_of_getElem? (i := 76) rfl)) rfl
theorem zm5_77 : (Cond.selects "HourClockModel" ({ cls := "HourClockModel", name := "beginOf", desc := "(I)I" } : Jvm.MethodName) ({ cls := "HourClockModel", name := "beginOf", desc := "(I)I" } : Jvm.MethodName)) ∈ zW := zW_mem (zt_5 (List.mem_of_getElem? (i := 77) rfl)) rfl
theorem zm5_78 : (Cond.code ({ cls := "HourClockModel", name := "beginOf", desc := "(I)I" } : Jvm.MethodName) prog_9_method_57_code (2 : Nat) (Option.some Jvm.ClassFile.FieldType.int)) ∈ zW := zW_mem (zt_5 (List.mem_of_getElem? (i := 78) rfl)) rfl
theorem zm5_79 : (Cond.methodLink "HourClockModel" (166 : Nat) ({ cls := "HourClockModel", name := "foresees", desc := "()V" } : Jvm.MethodName)) ∈ zW := zW_mem (zt_5 (List.mem_of_getElem? (i := 79) rfl)) rfl
theorem zm5_81 : (Cond.instanceMethod ({ cls := "HourClockModel", name := "foresees", desc := "()V" } : Jvm.MethodName)) ∈ zW := zW_mem (zt_5 (List.mem_of_getElem? (i := 81) rfl)) rfl
theorem zm5_82 : (Cond.code ({ cls := "HourClockModel", name := "foresees", desc := "()V" } : Jvm.MethodName) prog_9_method_34_code (2 : Nat) (Option.none : Option Jvm.ClassFile.FieldType)) ∈ zW := zW_mem (zt_5 (List.mem_of_getElem? (i := 82) rfl)) rfl
theorem zm5_83 : (Cond.methodLink "HourClockModel" (102 : Nat) ({ cls := "HourClockModel", name := "copies", desc := "([I[I)V" } : Jvm.MethodName)) ∈ zW := zW_mem (zt_5 (List.mem_of_getElem? (i := 83) rfl)) rfl
theorem zm5_84 : (Cond.static ({ cls := "HourClockModel", name := "copies", desc := "([I[I)V" } : Jvm.MethodName)) ∈ zW := zW_mem (zt_5 (List.mem_of_getElem? (i := 84) rfl)) rfl
theorem zm5_85 : (Cond.code ({ cls := "HourClockModel", name := "copies", desc := "([I[I)V" } : Jvm.MethodName) prog_9_method_6_code (3 : Nat) (Option.none : Option Jvm.ClassFile.FieldType)) ∈ zW := zW_mem (zt_5 (List.mem_of_getElem? (i := 85) rfl)) rfl
theorem zm5_86 : (Cond.methodLink "HourClockLaw" (123 : Nat) ({ cls := "HourClockModel", name := "endOfHour", desc := "()I" } : Jvm.MethodName)) ∈ zW := zW_mem (zt_5 (List.mem_of_getElem? (i := 86) rfl)) rfl
theorem zm5_87 : (Cond.instanceMethod ({ cls := "HourClockModel", name := "endOfHour", desc := "()I" } : Jvm.MethodName)) ∈ zW := zW_mem (zt_5 (List.mem_of_getElem? (i := 87) rfl)) rfl
theorem zm5_88 : (Cond.selects "HourClockModel" ({ cls := "HourClockModel", name := "endOfHour", desc := "()I" } : Jvm.MethodName) ({ cls := "HourClockModel", name := "endOfHour", desc := "()I" } : Jvm.MethodName)) ∈ zW := zW_mem (zt_5 (List.mem_of_getElem? (i := 88) rfl)) rfl
theorem zm5_89 : (Cond.code ({ cls := "HourClockModel", name := "endOfHour", desc := "()I" } : Jvm.MethodName) prog_9_method_58_code (1 : Nat) (Option.some Jvm.ClassFile.FieldType.int)) ∈ zW := zW_mem (zt_5 (List.mem_of_getElem? (i := 89) rfl)) rfl
theorem zm5_90 : (Cond.methodLink "HourClockLaw" (127 : Nat) ({ cls := "HourClockModel", name := "drops", desc := "()I" } : Jvm.MethodName)) ∈ zW := zW_mem (zt_5 (List.mem_of_getElem? (i := 90) rfl)) rfl
theorem zm5_91 : (Cond.instanceMethod ({ cls := "HourClockModel", name := "drops", desc := "()I" } : Jvm.MethodName)) ∈ zW := zW_mem (zt_5 (List.mem_of_getElem? (i := 91) rfl)) rfl
theorem zm5_92 : (Cond.selects "HourClockModel" ({ cls := "HourClockModel", name := "drops", desc := "()I" } : Jvm.MethodName) ({ cls := "HourClockModel", name := "drops", desc := "()I" } : Jvm.MethodName)) ∈ zW := zW_mem (zt_5 (List.mem_of_getElem? (i := 92) rfl)) rfl
theorem zm5_93 : (Cond.code ({ cls := "HourClockModel", name := "drops", desc := "()I" } : Jvm.MethodName) prog_9_method_59_code (3 : Nat) (Option.some Jvm.ClassFile.FieldType.int)) ∈ zW := zW_mem (zt_5 (List.mem_of_getElem? (i := 93) rfl)) rfl
theorem zm5_94 : (Cond.methodLink "HourClockLaw" (131 : Nat) ({ cls := "HourClockModel", name := "silence", desc := "()I" } : Jvm.MethodName)) ∈ zW := zW_mem (zt_5 (List.mem_of_getElem? (i := 94) rfl)) rfl
theorem zm5_95 : (Cond.instanceMethod ({ cls := "HourClockModel", name := "silence", desc := "()I" } : Jvm.MethodName)) ∈ zW := zW_mem (zt_5 (List.mem_of_getElem? (i := 95) rfl)) rfl
theorem zm5_96 : (Cond.selects "HourClockModel" ({ cls := "HourClockModel", name := "silence", desc := "()I" } : Jvm.MethodName) ({ cls := "HourClockModel", name := "silence", desc := "()I" } : Jvm.MethodName)) ∈ zW := zW_mem (zt_5 (List.mem_of_getElem? (i := 96) rfl)) rfl
theorem zm5_97 : (Cond.code ({ cls := "HourClockModel", name := "silence", desc := "()I" } : Jvm.MethodName) prog_9_method_60_code (1 : Nat) (Option.some Jvm.ClassFile.FieldType.int)) ∈ zW := zW_mem (zt_5 (List.mem_of_getElem? (i := 97) rfl)) rfl
theorem zm5_98 : (Cond.methodLink "HourClockLaw" (134 : Nat) ({ cls := "HourClockModel", name := "choice", desc := "(I)I" } : Jvm.MethodName)) ∈ zW := zW_mem (zt_5 (List.mem_of_getElem? (i := 98) rfl)) rfl
theorem zm5_99 : (Cond.instanceMethod ({ cls := "HourClockModel", name := "choice", desc := "(I)I" } : Jvm.MethodName)) ∈ zW := zW_mem (zt_5 (List.mem_of_getElem? (i := 99) rfl)) rfl
theorem zm5_100 : (Cond.selects "HourClockModel" ({ cls := "HourClockModel", name := "choice", desc := "(I)I" } : Jvm.MethodName) ({ cls := "HourClockModel", name := "choice", desc := "(I)I" } : Jvm.MethodName)) ∈ zW := zW_mem (zt_5 (List.mem_of_getElem? (i := 100) rfl)) rfl
theorem zm5_101 : (Cond.code ({ cls := "HourClockModel", name := "choice", desc := "(I)I" } : Jvm.MethodName) prog_9_method_61_code (2 : Nat) (Option.some Jvm.ClassFile.FieldType.int)) ∈ zW := zW_mem (zt_5 (List.mem_of_getElem? (i := 101) rfl)) rfl
theorem zm5_102 : (Cond.methodLink "HourClockLaw" (137 : Nat) ({ cls := "HourClockModel", name := "nextFull", desc := "(I)I" } : Jvm.MethodName)) ∈ zW := zW_mem (zt_5 (List.mem_of_getElem? (i := 102) rfl)) rfl
theorem zm5_103 : (Cond.instanceMethod ({ cls := "HourClockModel", name := "nextFull", desc := "(I)I" } : Jvm.MethodName)) ∈ zW := zW_mem (zt_5 (List.mem_of_getElem? (i := 103) rfl)) rfl
theorem zm5_104 : (Cond.selects "HourClockModel" ({ cls := "HourClockModel", name := "nextFull", desc := "(I)I" } : Jvm.MethodName) ({ cls := "HourClockModel", name := "nextFull", desc := "(I)I" } : Jvm.MethodName)) ∈ zW := zW_mem (zt_5 (List.mem_of_getElem? (i := 104) rfl)) rfl
theorem zm5_105 : (Cond.code ({ cls := "HourClockModel", name := "nextFull", desc := "(I)I" } : Jvm.MethodName) prog_9_method_63_code (2 : Nat) (Option.some Jvm.ClassFile.FieldType.int)) ∈ zW := zW_mem (zt_5 (List.mem_of_getElem? (i := 105) rfl)) rfl
theorem zm5_106 : (Cond.methodLink "HourClockModel" (169 : Nat) ({ cls := "HourClockModel", name := "fullAbove", desc := "(I)I" } : Jvm.MethodName)) ∈ zW := zW_mem (zt_5 (List.mem_of_getElem? (i := 106) rfl)) rfl
theorem zm5_108 : (Cond.instanceMethod ({ cls := "HourClockModel", name := "fullAbove", desc := "(I)I" } : Jvm.MethodName)) ∈ zW := zW_mem (zt_5 (List.mem_of_getElem? (i := 108) rfl)) rfl
theorem zm5_109 : (Cond.code ({ cls := "HourClockModel", name := "fullAbove", desc := "(I)I" } : Jvm.MethodName) prog_9_method_62_code (6 : Nat) (Option.some Jvm.ClassFile.FieldType.int)) ∈ zW := zW_mem (zt_5 (List.mem_of_getElem? (i := 109) rfl)) rfl
theorem zm5_110 : (Cond.methodLink "HourClockLaw" (141 : Nat) ({ cls := "HourClockModel", name := "bestDrop", desc := "()I" } : Jvm.MethodName)) ∈ zW := zW_mem (zt_5 (List.mem_of_getElem? (i := 110) rfl)) rfl
theorem zm5_111 : (Cond.instanceMethod ({ cls := "HourClockModel", name := "bestDrop", desc := "()I" } : Jvm.MethodName)) ∈ zW := zW_mem (zt_5 (List.mem_of_getElem? (i := 111) rfl)) rfl
theorem zm5_112 : (Cond.selects "HourClockModel" ({ cls := "HourClockModel", name := "bestDrop", desc := "()I" } : Jvm.MethodName) ({ cls := "HourClockModel", name := "bestDrop", desc := "()I" } : Jvm.MethodName)) ∈ zW := zW_mem (zt_5 (List.mem_of_getElem? (i := 112) rfl)) rfl
theorem zm5_113 : (Cond.code ({ cls := "HourClockModel", name := "bestDrop", desc := "()I" } : Jvm.MethodName) prog_9_method_65_code (4 : Nat) (Option.some Jvm.ClassFile.FieldType.int)) ∈ zW := zW_mem (zt_5 (List.mem_of_getElem? (i := 113) rfl)) rfl
theorem zm5_114 : (Cond.methodLink "HourClockModel" (172 : Nat) ({ cls := "HourClockModel", name := "doneThen", desc := "()I" } : Jvm.MethodName)) ∈ zW := zW_mem (zt_5 (List.mem_of_getElem? (i := 114) rfl)) rfl
theorem zm5_116 : (Cond.instanceMethod ({ cls := "HourClockModel", name := "doneThen", desc := "()I" } : Jvm.MethodName)) ∈ zW := zW_mem (zt_5 (List.mem_of_getElem? (i := 116) rfl)) rfl
theorem zm5_117 : (Cond.code ({ cls := "HourClockModel", name := "doneThen", desc := "()I" } : Jvm.MethodName) prog_9_method_64_code (3 : Nat) (Option.some Jvm.ClassFile.FieldType.int)) ∈ zW := zW_mem (zt_5 (List.mem_of_getElem? (i := 117) rfl)) rfl
theorem zm5_118 : (Cond.methodLink "HourClockLaw" (146 : Nat) ({ cls := "HourClockModel", name := "sounding", desc := "()D" } : Jvm.MethodName)) ∈ zW := zW_mem (zt_5 (List.mem_of_getElem? (i := 118) rfl)) rfl
theorem zm5_119 : (Cond.instanceMethod ({ cls := "HourClockModel", name := "sounding", desc := "()D" } : Jvm.MethodName)) ∈ zW := zW_mem (zt_5 (List.mem_of_getElem? (i := 119) rfl)) rfl
theorem zm5_120 : (Cond.selects "HourClockModel" ({ cls := "HourClockModel", name := "sounding", desc := "()D" } : Jvm.MethodName) ({ cls := "HourClockModel", name := "sounding", desc := "()D" } : Jvm.MethodName)) ∈ zW := zW_mem (zt_5 (List.mem_of_getElem? (i := 120) rfl)) rfl
theorem zm5_121 : (Cond.code ({ cls := "HourClockModel", name := "sounding", desc := "()D" } : Jvm.MethodName) prog_9_method_66_code (1 : Nat) (Option.some Jvm.ClassFile.FieldType.double)) ∈ zW := zW_mem (zt_5 (List.mem_of_getElem? (i := 121) rfl)) rfl
theorem zm5_122 : (Cond.methodLink "HourClockLaw" (149 : Nat) ({ cls := "HourClockModel", name := "append", desc := "(I)I" } : Jvm.MethodName)) ∈ zW := zW_mem (zt_5 (List.mem_of_getElem? (i := 122) rfl)) rfl
theorem zm5_123 : (Cond.instanceMethod ({ cls := "HourClockModel", name := "append", desc := "(I)I" } : Jvm.MethodName)) ∈ zW := zW_mem (zt_5 (List.mem_of_getElem? (i := 123) rfl)) rfl
theorem zm5_124 : (Cond.selects "HourClockModel" ({ cls := "HourClockModel", name := "append", desc := "(I)I" } : Jvm.MethodName) ({ cls := "HourClockModel", name := "append", desc := "(I)I" } : Jvm.MethodName)) ∈ zW := zW_mem (zt_5 (List.mem_of_getElem? (i := 124) rfl)) rfl
theorem zm5_125 : (Cond.code ({ cls := "HourClockModel", name := "append", desc := "(I)I" } : Jvm.MethodName) prog_9_method_67_code (2 : Nat) (Option.some Jvm.ClassFile.FieldType.int)) ∈ zW := zW_mem (zt_5 (List.mem_of_getElem? (i := 125) rfl)) rfl
theorem zm5_126 : (Cond.methodLink "HourClockLaw" (153 : Nat) ({ cls := "HourClockModel", name := "clearText", desc := "()I" } : Jvm.MethodName)) ∈ zW := zW_mem (zt_5 (List.mem_of_getElem? (i := 126) rfl)) rfl
theorem zm5_127 : (Cond.instanceMethod ({ cls := "HourClockModel", name := "clearText", desc := "()I" } : Jvm.MethodName)) ∈ zW := zW_mem (zt_5 (List.mem_of_getElem? (i := 127) rfl)) rfl
theorem zm5_128 : (Cond.selects "HourClockModel" ({ cls := "HourClockModel", name := "clearText", desc := "()I" } : Jvm.MethodName) ({ cls := "HourClockModel", name := "clearText", desc := "()I" } : Jvm.MethodName)) ∈ zW := zW_mem (zt_5 (List.mem_of_getElem? (i := 128) rfl)) rfl
theorem zm5_129 : (Cond.code ({ cls := "HourClockModel", name := "clearText", desc := "()I" } : Jvm.MethodName) prog_9_method_68_code (2 : Nat) (Option.some Jvm.ClassFile.FieldType.int)) ∈ zW := zW_mem (zt_5 (List.mem_of_getElem? (i := 129) rfl)) rfl
theorem zm5_130 : (Cond.methodLink "HourClockLaw" (157 : Nat) ({ cls := "HourClockModel", name := "parse", desc := "()I" } : Jvm.MethodName)) ∈ zW := zW_mem (zt_5 (List.mem_of_getElem? (i := 130) rfl)) rfl
theorem zm5_131 : (Cond.instanceMethod ({ cls := "HourClockModel", name := "parse", desc := "()I" } : Jvm.MethodName)) ∈ zW := zW_mem (zt_5 (List.mem_of_getElem? (i := 131) rfl)) rfl
theorem zm5_132 : (Cond.selects "HourClockModel" ({ cls := "HourClockModel", name := "parse", desc := "()I" } : Jvm.MethodName) ({ cls := "HourClockModel", name := "parse", desc := "()I" } : Jvm.MethodName)) ∈ zW := zW_mem (zt_5 (List.mem_of_getElem? (i := 132) rfl)) rfl
theorem zm5_133 : (Cond.code ({ cls := "HourClockModel", name := "parse", desc := "()I" } : Jvm.MethodName) prog_9_method_75_code (2 : Nat) (Option.some Jvm.ClassFile.FieldType.int)) ∈ zW := zW_mem (zt_5 (List.mem_of_getElem? (i := 133) rfl)) rfl
theorem zm5_134 : (Cond.methodLink "HourClockModel" (200 : Nat) ({ cls := "HourClockModel", name := "reads", desc := "()Z" } : Jvm.MethodName)) ∈ zW := zW_mem (zt_5 (List.mem_of_getElem? (i := 134) rfl)) rfl
theorem zm5_136 : (Cond.instanceMethod ({ cls := "HourClockModel", name := "reads", desc := "()Z" } : Jvm.MethodName)) ∈ zW := zW_mem (zt_5 (List.mem_of_getElem? (i := 136) rfl)) rfl
theorem zm5_137 : (Cond.code ({ cls := "HourClockModel", name := "reads", desc := "()Z" } : Jvm.MethodName) prog_9_method_74_code (2 : Nat) (Option.some Jvm.ClassFile.FieldType.boolean)) ∈ zW := zW_mem (zt_5 (List.mem_of_getElem? (i := 137) rfl)) rfl
theorem zm5_138 : (Cond.methodLink "HourClockModel" (181 : Nat) ({ cls := "HourClockModel", name := "isAt", desc := "(II)Z" } : Jvm.MethodName)) ∈ zW := zW_mem (zt_5 (List.mem_of_getElem? (i := 138) rfl)) rfl
theorem zm5_140 : (Cond.instanceMethod ({ cls := "HourClockModel", name := "isAt", desc := "(II)Z" } : Jvm.MethodName)) ∈ zW := zW_mem (zt_5 (List.mem_of_getElem? (i := 140) rfl)) rfl
theorem zm5_141 : (Cond.code ({ cls := "HourClockModel", name := "isAt", desc := "(II)Z" } : Jvm.MethodName) prog_9_method_69_code (3 : Nat) (Option.some Jvm.ClassFile.FieldType.boolean)) ∈ zW := zW_mem (zt_5 (List.mem_of_getElem? (i := 141) rfl)) rfl
theorem zm5_142 : (Cond.methodLink "HourClockModel" (193 : Nat) ({ cls := "HourClockModel", name := "readsFiller", desc := "()Z" } : Jvm.MethodName)) ∈ zW := zW_mem (zt_5 (List.mem_of_getElem? (i := 142) rfl)) rfl
theorem zm5_144 : (Cond.instanceMethod ({ cls := "HourClockModel", name := "readsFiller", desc := "()Z" } : Jvm.MethodName)) ∈ zW := zW_mem (zt_5 (List.mem_of_getElem? (i := 144) rfl)) rfl
theorem zm5_145 : (Cond.code ({ cls := "HourClockModel", name := "readsFiller", desc := "()Z" } : Jvm.MethodName) prog_9_method_73_code (1 : Nat) (Option.some Jvm.ClassFile.FieldType.boolean)) ∈ zW := zW_mem (zt_5 (List.mem_of_getElem? (i := 145) rfl)) rfl
theorem zm5_146 : (Cond.methodLink "HourClockModel" (187 : Nat) ({ cls := "HourClockModel", name := "readsNumber", desc := "(III)Z" } : Jvm.MethodName)) ∈ zW := zW_mem (zt_5 (List.mem_of_getElem? (i := 146) rfl)) rfl
theorem zm5_148 : (Cond.instanceMethod ({ cls := "HourClockModel", name := "readsNumber", desc := "(III)Z" } : Jvm.MethodName)) ∈ zW := zW_mem (zt_5 (List.mem_of_getElem? (i := 148) rfl)) rfl
theorem zm5_149 : (Cond.code ({ cls := "HourClockModel", name := "readsNumber", desc := "(III)Z" } : Jvm.MethodName) prog_9_method_71_code (6 : Nat) (Option.some Jvm.ClassFile.FieldType.boolean)) ∈ zW := zW_mem (zt_5 (List.mem_of_getElem? (i := 149) rfl)) rfl
theorem zm5_150 : (Cond.methodLink "HourClockModel" (190 : Nat) ({ cls := "HourClockModel", name := "takes", desc := "(I)Z" } : Jvm.MethodName)) ∈ zW := zW_mem (zt_5 (List.mem_of_getElem? (i := 150) rfl)) rfl
theorem zm5_152 : (Cond.instanceMethod ({ cls := "HourClockModel", name := "takes", desc := "(I)Z" } : Jvm.MethodName)) ∈ zW := zW_mem (zt_5 (List.mem_of_getElem? (i := 152) rfl)) rfl
theorem zm5_153 : (Cond.code ({ cls := "HourClockModel", name := "takes", desc := "(I)Z" } : Jvm.MethodName) prog_9_method_70_code (3 : Nat) (Option.some Jvm.ClassFile.FieldType.boolean)) ∈ zW := zW_mem (zt_5 (List.mem_of_getElem? (i := 153) rfl)) rfl
theorem zm5_154 : (Cond.methodLink "HourClockModel" (197 : Nat) ({ cls := "HourClockModel", name := "readsElement", desc := "()Z" } : Jvm.MethodName)) ∈ zW := zW_mem (zt_5 (List.mem_of_getElem? (i := 154) rfl)) rfl
theorem zm5_156 : (Cond.instanceMethod ({ cls := "HourClockModel", name := "readsElement", desc := "()Z" } : Jvm.MethodName)) ∈ zW := zW_mem (zt_5 (List.mem_of_getElem? (i := 156) rfl)) rfl
theorem zm5_157 : (Cond.code ({ cls := "HourClockModel", name := "readsElement", desc := "()Z" } : Jvm.MethodName) prog_9_method_72_code (4 : Nat) (Option.some Jvm.ClassFile.FieldType.boolean)) ∈ zW := zW_mem (zt_5 (List.mem_of_getElem? (i := 157) rfl)) rfl
theorem zm5_158 : (Cond.methodLink "HourClockLaw" (160 : Nat) ({ cls := "HourClockModel", name := "undo", desc := "()I" } : Jvm.MethodName)) ∈ zW := zW_mem (zt_5 (List.mem_of_getElem? (i := 158) rfl)) rfl
theorem zm5_159 : (Cond.instanceMethod ({ cls := "HourClockModel", name := "undo", desc := "()I" } : Jvm.MethodName)) ∈ zW := zW_mem (zt_5 (List.mem_of_getElem? (i := 159) rfl)) rfl
theorem zm5_160 : (Cond.selects "HourClockModel" ({ cls := "HourClockModel", name := "undo", desc := "()I" } : Jvm.MethodName) ({ cls := "HourClockModel", name := "undo", desc := "()I" } : Jvm.MethodName)) ∈ zW := zW_mem (zt_5 (List.mem_of_getElem? (i := 160) rfl)) rfl
theorem zm5_161 : (Cond.code ({ cls := "HourClockModel", name := "undo", desc := "()I" } : Jvm.MethodName) prog_9_method_76_code (2 : Nat) (Option.some Jvm.ClassFile.FieldType.int)) ∈ zW := zW_mem (zt_5 (List.mem_of_getElem? (i := 161) rfl)) rfl
theorem zm5_162 : (Cond.methodLink "HourClockLaw" (165 : Nat) ({ cls := "HourClockModel", name := "digest", desc := "()J" } : Jvm.MethodName)) ∈ zW := zW_mem (zt_5 (List.mem_of_getElem? (i := 162) rfl)) rfl
theorem zm5_163 : (Cond.instanceMethod ({ cls := "HourClockModel", name := "digest", desc := "()J" } : Jvm.MethodName)) ∈ zW := zW_mem (zt_5 (List.mem_of_getElem? (i := 163) rfl)) rfl
theorem zm5_164 : (Cond.selects "HourClockModel" ({ cls := "HourClockModel", name := "digest", desc := "()J" } : Jvm.MethodName) ({ cls := "HourClockModel", name := "digest", desc := "()J" } : Jvm.MethodName)) ∈ zW := zW_mem (zt_5 (List.mem_of_getElem? (i := 164) rfl)) rfl
theorem zm5_165 : (Cond.code ({ cls := "HourClockModel", name := "digest", desc := "()J" } : Jvm.MethodName) prog_9_method_78_code (3 : Nat) (Option.some Jvm.ClassFile.FieldType.long)) ∈ zW := zW_mem (zt_5 (List.mem_of_getElem? (i := 165) rfl)) rfl
theorem zm5_166 : (Cond.constantLong "HourClockModel" (209 : Nat) (3559 : Int64)) ∈ zW := zW_mem (zt_5 (List.mem_of_getElem? (i := 166) rfl)) rfl
theorem zm5_167 : (Cond.methodLink "HourClockModel" (211 : Nat) ({ cls := "HourClockModel", name := "mix", desc := "(I)V" } : Jvm.MethodName)) ∈ zW := zW_mem (zt_5 (List.mem_of_getElem? (i := 167) rfl)) rfl
theorem zm5_169 : (Cond.instanceMethod ({ cls := "HourClockModel", name := "mix", desc := "(I)V" } : Jvm.MethodName)) ∈ zW := zW_mem (zt_5 (List.mem_of_getElem? (i := 169) rfl)) rfl
theorem zm5_170 : (Cond.code ({ cls := "HourClockModel", name := "mix", desc := "(I)V" } : Jvm.MethodName) prog_9_method_77_code (2 : Nat) (Option.none : Option Jvm.ClassFile.FieldType)) ∈ zW := zW_mem (zt_5 (List.mem_of_getElem? (i := 170) rfl)) rfl
theorem zm5_171 : (Cond.constantLong "HourClockModel" (203 : Nat) (31 : Int64)) ∈ zW := zW_mem (zt_5 (List.mem_of_getElem? (i := 171) rfl)) rfl
theorem zm5_172 : (Cond.arrayClass Jvm.ClassFile.FieldType.long) ∈ zW := zW_mem (zt_5 (List.mem_of_getElem? (i := 172) rfl)) rfl
theorem zp_1 {q : MethodName × Nat} (h : q ∈ lw_privs_1) : q ∈ lw_privs := List.mem_append_left _ h
theorem zp_2 {q : MethodName × Nat} (h : q ∈ lw_privs_2) : q ∈ lw_privs := List.mem_append_right _ (List.mem_append_left _ h)
theorem zp_3 {q : MethodName × Nat} (h : q ∈ lw_privs_3) : q ∈ lw_privs := List.mem_append_right _ (List.mem_append_right _ (List.mem_append_left _ h))
theorem zp_4 {q : MethodName × Nat} (h : q ∈ lw_privs_4) : q ∈ lw_privs := List.mem_append_right _ (List.mem_append_right _ (List.mem_append_right _ (List.mem_append_left _ h)))
theorem zp_5 {q : MethodName × Nat} (h : q ∈ lw_privs_5) : q ∈ lw_privs := List.mem_append_right _ (List.mem_append_right _ (List.mem_append_right _ (List.mem_append_right _ (List.mem_append_left _ h))))
theorem zp_6 {q : MethodName × Nat} (h : q ∈ lw_privs_6) : q ∈ lw_privs := List.mem_append_right _ (List.mem_append_right _ (List.mem_append_right _ (List.mem_append_right _ (List.mem_append_right _ (List.mem_append_left _ h)))))
theorem zp_7 {q : MethodName × Nat} (h : q ∈ lw_privs_7) : q ∈ lw_privs := List.mem_append_right _ (List.mem_append_right _ (List.mem_append_right _ (List.mem_append_right _ (List.mem_append_right _ (List.mem_append_right _ (h))))))
theorem zs1_0 : Cond.selects "HourClock" ⟨"HourClock", "save", "()V"⟩ ⟨"HourClock", "save", "()V"⟩ ∈ zW := zW_mem (List.mem_append_left _ (List.mem_map.mpr ⟨(⟨"HourClock", "save", "()V"⟩, 5), zp_1 (List.mem_of_getElem? (i := 0) rfl), rfl⟩)) rfl
theorem zs1_1 : Cond.selects "HourClock" ⟨"HourClock", "forgetOldest", "()V"⟩ ⟨"HourClock", "forgetOldest", "()V"⟩ ∈ zW := zW_mem (List.mem_append_left _ (List.mem_map.mpr ⟨(⟨"HourClock", "forgetOldest", "()V"⟩, 5), zp_1 (List.mem_of_getElem? (i := 1) rfl), rfl⟩)) rfl
theorem zs1_2 : Cond.selects "HourClock$Hour" ⟨"HourClock$Hour", "copyFrom", "(LHourClock$Hour;)V"⟩ ⟨"HourClock$Hour", "copyFrom", "(LHourClock$Hour;)V"⟩ ∈ zW := zW_mem (List.mem_append_left _ (List.mem_map.mpr ⟨(⟨"HourClock$Hour", "copyFrom", "(LHourClock$Hour;)V"⟩, 11), zp_1 (List.mem_of_getElem? (i := 2) rfl), rfl⟩)) rfl
theorem zs1_3 : Cond.selects "HourClock$Elements" ⟨"HourClock$Elements", "copyFrom", "(LHourClock$Elements;)V"⟩ ⟨"HourClock$Elements", "copyFrom", "(LHourClock$Elements;)V"⟩ ∈ zW := zW_mem (List.mem_append_left _ (List.mem_map.mpr ⟨(⟨"HourClock$Elements", "copyFrom", "(LHourClock$Elements;)V"⟩, 6), zp_1 (List.mem_of_getElem? (i := 3) rfl), rfl⟩)) rfl
theorem zs1_4 : Cond.selects "HourClock$Fillers" ⟨"HourClock$Fillers", "copyFrom", "(LHourClock$Fillers;)V"⟩ ⟨"HourClock$Fillers", "copyFrom", "(LHourClock$Fillers;)V"⟩ ∈ zW := zW_mem (List.mem_append_left _ (List.mem_map.mpr ⟨(⟨"HourClock$Fillers", "copyFrom", "(LHourClock$Fillers;)V"⟩, 5), zp_1 (List.mem_of_getElem? (i := 4) rfl), rfl⟩)) rfl
theorem zs1_5 : Cond.selects "HourClock$Log" ⟨"HourClock$Log", "copyFrom", "(LHourClock$Log;)V"⟩ ⟨"HourClock$Log", "copyFrom", "(LHourClock$Log;)V"⟩ ∈ zW := zW_mem (List.mem_append_left _ (List.mem_map.mpr ⟨(⟨"HourClock$Log", "copyFrom", "(LHourClock$Log;)V"⟩, 4), zp_1 (List.mem_of_getElem? (i := 5) rfl), rfl⟩)) rfl
theorem zs1_6 : Cond.selects "HourClock$Hour" ⟨"HourClock$Hour", "runTo", "(I)V"⟩ ⟨"HourClock$Hour", "runTo", "(I)V"⟩ ∈ zW := zW_mem (List.mem_append_left _ (List.mem_map.mpr ⟨(⟨"HourClock$Hour", "runTo", "(I)V"⟩, 11), zp_1 (List.mem_of_getElem? (i := 6) rfl), rfl⟩)) rfl
theorem zs1_7 : Cond.selects "HourClock$Hour" ⟨"HourClock$Hour", "findNext", "()V"⟩ ⟨"HourClock$Hour", "findNext", "()V"⟩ ∈ zW := zW_mem (List.mem_append_left _ (List.mem_map.mpr ⟨(⟨"HourClock$Hour", "findNext", "()V"⟩, 11), zp_1 (List.mem_of_getElem? (i := 7) rfl), rfl⟩)) rfl
theorem zs1_8 : Cond.selects "HourClock$Hour" ⟨"HourClock$Hour", "dropForTime", "()V"⟩ ⟨"HourClock$Hour", "dropForTime", "()V"⟩ ∈ zW := zW_mem (List.mem_append_left _ (List.mem_map.mpr ⟨(⟨"HourClock$Hour", "dropForTime", "()V"⟩, 11), zp_1 (List.mem_of_getElem? (i := 8) rfl), rfl⟩)) rfl
theorem zs1_9 : Cond.selects "HourClock$Elements" ⟨"HourClock$Elements", "leastOfSection", "()I"⟩ ⟨"HourClock$Elements", "leastOfSection", "()I"⟩ ∈ zW := zW_mem (List.mem_append_left _ (List.mem_map.mpr ⟨(⟨"HourClock$Elements", "leastOfSection", "()I"⟩, 6), zp_1 (List.mem_of_getElem? (i := 9) rfl), rfl⟩)) rfl
theorem zs1_10 : Cond.selects "HourClock$Elements" ⟨"HourClock$Elements", "nextFixed", "(I)I"⟩ ⟨"HourClock$Elements", "nextFixed", "(I)I"⟩ ∈ zW := zW_mem (List.mem_append_left _ (List.mem_map.mpr ⟨(⟨"HourClock$Elements", "nextFixed", "(I)I"⟩, 6), zp_1 (List.mem_of_getElem? (i := 10) rfl), rfl⟩)) rfl
theorem zs1_11 : Cond.selects "HourClock$Elements" ⟨"HourClock$Elements", "sectionLength", "()I"⟩ ⟨"HourClock$Elements", "sectionLength", "()I"⟩ ∈ zW := zW_mem (List.mem_append_left _ (List.mem_map.mpr ⟨(⟨"HourClock$Elements", "sectionLength", "()I"⟩, 6), zp_1 (List.mem_of_getElem? (i := 11) rfl), rfl⟩)) rfl
theorem zs1_12 : Cond.selects "HourClock$Elements" ⟨"HourClock$Elements", "waitingLength", "(II)I"⟩ ⟨"HourClock$Elements", "waitingLength", "(II)I"⟩ ∈ zW := zW_mem (List.mem_append_left _ (List.mem_map.mpr ⟨(⟨"HourClock$Elements", "waitingLength", "(II)I"⟩, 6), zp_1 (List.mem_of_getElem? (i := 12) rfl), rfl⟩)) rfl
theorem zs1_13 : Cond.selects "HourClock$Elements" ⟨"HourClock$Elements", "goal", "()I"⟩ ⟨"HourClock$Elements", "goal", "()I"⟩ ∈ zW := zW_mem (List.mem_append_left _ (List.mem_map.mpr ⟨(⟨"HourClock$Elements", "goal", "()I"⟩, 6), zp_1 (List.mem_of_getElem? (i := 13) rfl), rfl⟩)) rfl
theorem zs1_14 : Cond.selects "HourClock$Elements" ⟨"HourClock$Elements", "timeOrHourEnd", "(I)I"⟩ ⟨"HourClock$Elements", "timeOrHourEnd", "(I)I"⟩ ∈ zW := zW_mem (List.mem_append_left _ (List.mem_map.mpr ⟨(⟨"HourClock$Elements", "timeOrHourEnd", "(I)I"⟩, 6), zp_1 (List.mem_of_getElem? (i := 14) rfl), rfl⟩)) rfl
theorem zs1_15 : Cond.selects "HourClock$Elements" ⟨"HourClock$Elements", "has", "(I)Z"⟩ ⟨"HourClock$Elements", "has", "(I)Z"⟩ ∈ zW := zW_mem (List.mem_append_left _ (List.mem_map.mpr ⟨(⟨"HourClock$Elements", "has", "(I)Z"⟩, 6), zp_1 (List.mem_of_getElem? (i := 15) rfl), rfl⟩)) rfl
theorem zs2_0 : Cond.selects "HourClock$Hour" ⟨"HourClock$Hour", "dropElement", "(I)V"⟩ ⟨"HourClock$Hour", "dropElement", "(I)V"⟩ ∈ zW := zW_mem (List.mem_append_left _ (List.mem_map.mpr ⟨(⟨"HourClock$Hour", "dropElement", "(I)V"⟩, 11), zp_2 (List.mem_of_getElem? (i := 0) rfl), rfl⟩)) rfl
theorem zs2_1 : Cond.selects "HourClock$Log" ⟨"HourClock$Log", "add", "(III)V"⟩ ⟨"HourClock$Log", "add", "(III)V"⟩ ∈ zW := zW_mem (List.mem_append_left _ (List.mem_map.mpr ⟨(⟨"HourClock$Log", "add", "(III)V"⟩, 4), zp_2 (List.mem_of_getElem? (i := 1) rfl), rfl⟩)) rfl
theorem zs2_2 : Cond.selects "HourClock$Elements" ⟨"HourClock$Elements", "firstThatWaits", "()I"⟩ ⟨"HourClock$Elements", "firstThatWaits", "()I"⟩ ∈ zW := zW_mem (List.mem_append_left _ (List.mem_map.mpr ⟨(⟨"HourClock$Elements", "firstThatWaits", "()I"⟩, 6), zp_2 (List.mem_of_getElem? (i := 2) rfl), rfl⟩)) rfl
theorem zs2_3 : Cond.selects "HourClock$Elements" ⟨"HourClock$Elements", "isFixed", "(I)Z"⟩ ⟨"HourClock$Elements", "isFixed", "(I)Z"⟩ ∈ zW := zW_mem (List.mem_append_left _ (List.mem_map.mpr ⟨(⟨"HourClock$Elements", "isFixed", "(I)Z"⟩, 6), zp_2 (List.mem_of_getElem? (i := 3) rfl), rfl⟩)) rfl
theorem zs2_4 : Cond.selects "HourClock$Hour" ⟨"HourClock$Hour", "fillGap", "(I)V"⟩ ⟨"HourClock$Hour", "fillGap", "(I)V"⟩ ∈ zW := zW_mem (List.mem_append_left _ (List.mem_map.mpr ⟨(⟨"HourClock$Hour", "fillGap", "(I)V"⟩, 11), zp_2 (List.mem_of_getElem? (i := 4) rfl), rfl⟩)) rfl
theorem zs2_5 : Cond.selects "HourClock$Fillers" ⟨"HourClock$Fillers", "chooseFor", "(I)I"⟩ ⟨"HourClock$Fillers", "chooseFor", "(I)I"⟩ ∈ zW := zW_mem (List.mem_append_left _ (List.mem_map.mpr ⟨(⟨"HourClock$Fillers", "chooseFor", "(I)I"⟩, 5), zp_2 (List.mem_of_getElem? (i := 5) rfl), rfl⟩)) rfl
theorem zs2_6 : Cond.selects "HourClock$SetWalk" ⟨"HourClock$SetWalk", "begin", "(LHourClock$Fillers;)I"⟩ ⟨"HourClock$SetWalk", "begin", "(LHourClock$Fillers;)I"⟩ ∈ zW := zW_mem (List.mem_append_left _ (List.mem_map.mpr ⟨(⟨"HourClock$SetWalk", "begin", "(LHourClock$Fillers;)I"⟩, 6), zp_2 (List.mem_of_getElem? (i := 6) rfl), rfl⟩)) rfl
theorem zs2_7 : Cond.selects "HourClock$SetWalk" ⟨"HourClock$SetWalk", "go", "(I)V"⟩ ⟨"HourClock$SetWalk", "go", "(I)V"⟩ ∈ zW := zW_mem (List.mem_append_left _ (List.mem_map.mpr ⟨(⟨"HourClock$SetWalk", "go", "(I)V"⟩, 6), zp_2 (List.mem_of_getElem? (i := 7) rfl), rfl⟩)) rfl
theorem zs2_8 : Cond.selects "HourClock$Fillers" ⟨"HourClock$Fillers", "has", "(I)Z"⟩ ⟨"HourClock$Fillers", "has", "(I)Z"⟩ ∈ zW := zW_mem (List.mem_append_left _ (List.mem_map.mpr ⟨(⟨"HourClock$Fillers", "has", "(I)Z"⟩, 5), zp_2 (List.mem_of_getElem? (i := 8) rfl), rfl⟩)) rfl
theorem zs2_9 : Cond.selects "HourClock$Hour" ⟨"HourClock$Hour", "putOnAir", "(III)V"⟩ ⟨"HourClock$Hour", "putOnAir", "(III)V"⟩ ∈ zW := zW_mem (List.mem_append_left _ (List.mem_map.mpr ⟨(⟨"HourClock$Hour", "putOnAir", "(III)V"⟩, 11), zp_2 (List.mem_of_getElem? (i := 9) rfl), rfl⟩)) rfl
theorem zs2_10 : Cond.selects "HourClock$Hour" ⟨"HourClock$Hour", "beginElement", "(I)V"⟩ ⟨"HourClock$Hour", "beginElement", "(I)V"⟩ ∈ zW := zW_mem (List.mem_append_left _ (List.mem_map.mpr ⟨(⟨"HourClock$Hour", "beginElement", "(I)V"⟩, 11), zp_2 (List.mem_of_getElem? (i := 10) rfl), rfl⟩)) rfl
theorem zs2_11 : Cond.selects "HourClock$Elements" ⟨"HourClock$Elements", "lateness", "(I)I"⟩ ⟨"HourClock$Elements", "lateness", "(I)I"⟩ ∈ zW := zW_mem (List.mem_append_left _ (List.mem_map.mpr ⟨(⟨"HourClock$Elements", "lateness", "(I)I"⟩, 6), zp_2 (List.mem_of_getElem? (i := 11) rfl), rfl⟩)) rfl
theorem zs2_12 : Cond.selects "HourClock$Hour" ⟨"HourClock$Hour", "passAir", "(I)V"⟩ ⟨"HourClock$Hour", "passAir", "(I)V"⟩ ∈ zW := zW_mem (List.mem_append_left _ (List.mem_map.mpr ⟨(⟨"HourClock$Hour", "passAir", "(I)V"⟩, 11), zp_2 (List.mem_of_getElem? (i := 12) rfl), rfl⟩)) rfl
theorem zs2_13 : Cond.selects "HourClock$Hour" ⟨"HourClock$Hour", "endAir", "()V"⟩ ⟨"HourClock$Hour", "endAir", "()V"⟩ ∈ zW := zW_mem (List.mem_append_left _ (List.mem_map.mpr ⟨(⟨"HourClock$Hour", "endAir", "()V"⟩, 11), zp_2 (List.mem_of_getElem? (i := 13) rfl), rfl⟩)) rfl
theorem zs2_14 : Cond.selects "HourClock$Hour" ⟨"HourClock$Hour", "clearAir", "()V"⟩ ⟨"HourClock$Hour", "clearAir", "()V"⟩ ∈ zW := zW_mem (List.mem_append_left _ (List.mem_map.mpr ⟨(⟨"HourClock$Hour", "clearAir", "()V"⟩, 11), zp_2 (List.mem_of_getElem? (i := 14) rfl), rfl⟩)) rfl
theorem zs2_15 : Cond.selects "HourClock" ⟨"HourClock", "foresee", "(I)LHourClock$Hour;"⟩ ⟨"HourClock", "foresee", "(I)LHourClock$Hour;"⟩ ∈ zW := zW_mem (List.mem_append_left _ (List.mem_map.mpr ⟨(⟨"HourClock", "foresee", "(I)LHourClock$Hour;"⟩, 5), zp_2 (List.mem_of_getElem? (i := 15) rfl), rfl⟩)) rfl
theorem zs3_0 : Cond.selects "HourClock$Elements" ⟨"HourClock$Elements", "waits", "(I)Z"⟩ ⟨"HourClock$Elements", "waits", "(I)Z"⟩ ∈ zW := zW_mem (List.mem_append_left _ (List.mem_map.mpr ⟨(⟨"HourClock$Elements", "waits", "(I)Z"⟩, 6), zp_3 (List.mem_of_getElem? (i := 0) rfl), rfl⟩)) rfl
theorem zs3_1 : Cond.selects "HourClock$Elements" ⟨"HourClock$Elements", "is", "(II)Z"⟩ ⟨"HourClock$Elements", "is", "(II)Z"⟩ ∈ zW := zW_mem (List.mem_append_left _ (List.mem_map.mpr ⟨(⟨"HourClock$Elements", "is", "(II)Z"⟩, 6), zp_3 (List.mem_of_getElem? (i := 1) rfl), rfl⟩)) rfl
theorem zs3_2 : Cond.selects "HourClock$Elements" ⟨"HourClock$Elements", "countThatAre", "(I)I"⟩ ⟨"HourClock$Elements", "countThatAre", "(I)I"⟩ ∈ zW := zW_mem (List.mem_append_left _ (List.mem_map.mpr ⟨(⟨"HourClock$Elements", "countThatAre", "(I)I"⟩, 6), zp_3 (List.mem_of_getElem? (i := 2) rfl), rfl⟩)) rfl
theorem zs3_3 : Cond.selects "HourClock$Text" ⟨"HourClock$Text", "readInto", "(LHourClock$Hour;)I"⟩ ⟨"HourClock$Text", "readInto", "(LHourClock$Hour;)I"⟩ ∈ zW := zW_mem (List.mem_append_left _ (List.mem_map.mpr ⟨(⟨"HourClock$Text", "readInto", "(LHourClock$Hour;)I"⟩, 4), zp_3 (List.mem_of_getElem? (i := 3) rfl), rfl⟩)) rfl
theorem zs3_4 : Cond.selects "HourClock$Hour" ⟨"HourClock$Hour", "becomeEmpty", "()V"⟩ ⟨"HourClock$Hour", "becomeEmpty", "()V"⟩ ∈ zW := zW_mem (List.mem_append_left _ (List.mem_map.mpr ⟨(⟨"HourClock$Hour", "becomeEmpty", "()V"⟩, 11), zp_3 (List.mem_of_getElem? (i := 4) rfl), rfl⟩)) rfl
theorem zs3_5 : Cond.selects "HourClock$Hour" ⟨"HourClock$Hour", "beginAnew", "()V"⟩ ⟨"HourClock$Hour", "beginAnew", "()V"⟩ ∈ zW := zW_mem (List.mem_append_left _ (List.mem_map.mpr ⟨(⟨"HourClock$Hour", "beginAnew", "()V"⟩, 11), zp_3 (List.mem_of_getElem? (i := 5) rfl), rfl⟩)) rfl
theorem zs3_6 : Cond.selects "HourClock$Elements" ⟨"HourClock$Elements", "allWait", "()V"⟩ ⟨"HourClock$Elements", "allWait", "()V"⟩ ∈ zW := zW_mem (List.mem_append_left _ (List.mem_map.mpr ⟨(⟨"HourClock$Elements", "allWait", "()V"⟩, 6), zp_3 (List.mem_of_getElem? (i := 6) rfl), rfl⟩)) rfl
theorem zs3_7 : Cond.selects "HourClock$Fillers" ⟨"HourClock$Fillers", "allWait", "()V"⟩ ⟨"HourClock$Fillers", "allWait", "()V"⟩ ∈ zW := zW_mem (List.mem_append_left _ (List.mem_map.mpr ⟨(⟨"HourClock$Fillers", "allWait", "()V"⟩, 5), zp_3 (List.mem_of_getElem? (i := 7) rfl), rfl⟩)) rfl
theorem zs3_8 : Cond.selects "HourClock$Text" ⟨"HourClock$Text", "readItem", "(LHourClock$Hour;)V"⟩ ⟨"HourClock$Text", "readItem", "(LHourClock$Hour;)V"⟩ ∈ zW := zW_mem (List.mem_append_left _ (List.mem_map.mpr ⟨(⟨"HourClock$Text", "readItem", "(LHourClock$Hour;)V"⟩, 4), zp_3 (List.mem_of_getElem? (i := 8) rfl), rfl⟩)) rfl
theorem zs3_9 : Cond.selects "HourClock$Text" ⟨"HourClock$Text", "here", "()I"⟩ ⟨"HourClock$Text", "here", "()I"⟩ ∈ zW := zW_mem (List.mem_append_left _ (List.mem_map.mpr ⟨(⟨"HourClock$Text", "here", "()I"⟩, 4), zp_3 (List.mem_of_getElem? (i := 9) rfl), rfl⟩)) rfl
theorem zs3_10 : Cond.selects "HourClock$Text" ⟨"HourClock$Text", "isDigit", "(I)Z"⟩ ⟨"HourClock$Text", "isDigit", "(I)Z"⟩ ∈ zW := zW_mem (List.mem_append_left _ (List.mem_map.mpr ⟨(⟨"HourClock$Text", "isDigit", "(I)Z"⟩, 4), zp_3 (List.mem_of_getElem? (i := 10) rfl), rfl⟩)) rfl
theorem zs3_11 : Cond.selects "HourClock$Text" ⟨"HourClock$Text", "readElement", "(LHourClock$Elements;)V"⟩ ⟨"HourClock$Text", "readElement", "(LHourClock$Elements;)V"⟩ ∈ zW := zW_mem (List.mem_append_left _ (List.mem_map.mpr ⟨(⟨"HourClock$Text", "readElement", "(LHourClock$Elements;)V"⟩, 4), zp_3 (List.mem_of_getElem? (i := 11) rfl), rfl⟩)) rfl
theorem zs3_12 : Cond.selects "HourClock$Text" ⟨"HourClock$Text", "readNumber", "(III)I"⟩ ⟨"HourClock$Text", "readNumber", "(III)I"⟩ ∈ zW := zW_mem (List.mem_append_left _ (List.mem_map.mpr ⟨(⟨"HourClock$Text", "readNumber", "(III)I"⟩, 4), zp_3 (List.mem_of_getElem? (i := 12) rfl), rfl⟩)) rfl
theorem zs3_13 : Cond.selects "HourClock$Text" ⟨"HourClock$Text", "fail", "(I)V"⟩ ⟨"HourClock$Text", "fail", "(I)V"⟩ ∈ zW := zW_mem (List.mem_append_left _ (List.mem_map.mpr ⟨(⟨"HourClock$Text", "fail", "(I)V"⟩, 4), zp_3 (List.mem_of_getElem? (i := 13) rfl), rfl⟩)) rfl
theorem zs3_14 : Cond.selects "HourClock$Text" ⟨"HourClock$Text", "take", "(C)Z"⟩ ⟨"HourClock$Text", "take", "(C)Z"⟩ ∈ zW := zW_mem (List.mem_append_left _ (List.mem_map.mpr ⟨(⟨"HourClock$Text", "take", "(C)Z"⟩, 4), zp_3 (List.mem_of_getElem? (i := 14) rfl), rfl⟩)) rfl
theorem zs3_15 : Cond.selects "HourClock$Text" ⟨"HourClock$Text", "takeSemicolon", "()Z"⟩ ⟨"HourClock$Text", "takeSemicolon", "()Z"⟩ ∈ zW := zW_mem (List.mem_append_left _ (List.mem_map.mpr ⟨(⟨"HourClock$Text", "takeSemicolon", "()Z"⟩, 4), zp_3 (List.mem_of_getElem? (i := 15) rfl), rfl⟩)) rfl
theorem zs4_0 : Cond.selects "HourClock$Elements" ⟨"HourClock$Elements", "add", "(III)V"⟩ ⟨"HourClock$Elements", "add", "(III)V"⟩ ∈ zW := zW_mem (List.mem_append_left _ (List.mem_map.mpr ⟨(⟨"HourClock$Elements", "add", "(III)V"⟩, 6), zp_4 (List.mem_of_getElem? (i := 0) rfl), rfl⟩)) rfl
theorem zs4_1 : Cond.selects "HourClock$Text" ⟨"HourClock$Text", "readFiller", "(LHourClock$Fillers;)V"⟩ ⟨"HourClock$Text", "readFiller", "(LHourClock$Fillers;)V"⟩ ∈ zW := zW_mem (List.mem_append_left _ (List.mem_map.mpr ⟨(⟨"HourClock$Text", "readFiller", "(LHourClock$Fillers;)V"⟩, 4), zp_4 (List.mem_of_getElem? (i := 1) rfl), rfl⟩)) rfl
theorem zs4_2 : Cond.selects "HourClock$Fillers" ⟨"HourClock$Fillers", "add", "(I)V"⟩ ⟨"HourClock$Fillers", "add", "(I)V"⟩ ∈ zW := zW_mem (List.mem_append_left _ (List.mem_map.mpr ⟨(⟨"HourClock$Fillers", "add", "(I)V"⟩, 5), zp_4 (List.mem_of_getElem? (i := 2) rfl), rfl⟩)) rfl
theorem zs4_3 : Cond.selects "HourClock$Hour" ⟨"HourClock$Hour", "tell", "(I)I"⟩ ⟨"HourClock$Hour", "tell", "(I)I"⟩ ∈ zW := zW_mem (List.mem_append_left _ (List.mem_map.mpr ⟨(⟨"HourClock$Hour", "tell", "(I)I"⟩, 11), zp_4 (List.mem_of_getElem? (i := 3) rfl), rfl⟩)) rfl
theorem zs4_4 : Cond.selects "HourClock$Fillers" ⟨"HourClock$Fillers", "countThatWait", "()I"⟩ ⟨"HourClock$Fillers", "countThatWait", "()I"⟩ ∈ zW := zW_mem (List.mem_append_left _ (List.mem_map.mpr ⟨(⟨"HourClock$Fillers", "countThatWait", "()I"⟩, 5), zp_4 (List.mem_of_getElem? (i := 4) rfl), rfl⟩)) rfl
theorem zs4_5 : Cond.selects "HourClock$Elements" ⟨"HourClock$Elements", "tell", "(II)I"⟩ ⟨"HourClock$Elements", "tell", "(II)I"⟩ ∈ zW := zW_mem (List.mem_append_left _ (List.mem_map.mpr ⟨(⟨"HourClock$Elements", "tell", "(II)I"⟩, 6), zp_4 (List.mem_of_getElem? (i := 5) rfl), rfl⟩)) rfl
theorem zs4_6 : Cond.selects "HourClock$Elements" ⟨"HourClock$Elements", "inSection", "(I)Z"⟩ ⟨"HourClock$Elements", "inSection", "(I)Z"⟩ ∈ zW := zW_mem (List.mem_append_left _ (List.mem_map.mpr ⟨(⟨"HourClock$Elements", "inSection", "(I)Z"⟩, 6), zp_4 (List.mem_of_getElem? (i := 6) rfl), rfl⟩)) rfl
theorem zs4_7 : Cond.selects "HourClock$Elements" ⟨"HourClock$Elements", "latestBegin", "(I)I"⟩ ⟨"HourClock$Elements", "latestBegin", "(I)I"⟩ ∈ zW := zW_mem (List.mem_append_left _ (List.mem_map.mpr ⟨(⟨"HourClock$Elements", "latestBegin", "(I)I"⟩, 6), zp_4 (List.mem_of_getElem? (i := 7) rfl), rfl⟩)) rfl
theorem zs4_8 : Cond.selects "HourClock$Elements" ⟨"HourClock$Elements", "begunAt", "(I)I"⟩ ⟨"HourClock$Elements", "begunAt", "(I)I"⟩ ∈ zW := zW_mem (List.mem_append_left _ (List.mem_map.mpr ⟨(⟨"HourClock$Elements", "begunAt", "(I)I"⟩, 6), zp_4 (List.mem_of_getElem? (i := 8) rfl), rfl⟩)) rfl
theorem zs4_9 : Cond.selects "HourClock$Fillers" ⟨"HourClock$Fillers", "tell", "(II)I"⟩ ⟨"HourClock$Fillers", "tell", "(II)I"⟩ ∈ zW := zW_mem (List.mem_append_left _ (List.mem_map.mpr ⟨(⟨"HourClock$Fillers", "tell", "(II)I"⟩, 5), zp_4 (List.mem_of_getElem? (i := 9) rfl), rfl⟩)) rfl
theorem zs4_10 : Cond.selects "HourClock$Log" ⟨"HourClock$Log", "tell", "(II)I"⟩ ⟨"HourClock$Log", "tell", "(II)I"⟩ ∈ zW := zW_mem (List.mem_append_left _ (List.mem_map.mpr ⟨(⟨"HourClock$Log", "tell", "(II)I"⟩, 4), zp_4 (List.mem_of_getElem? (i := 10) rfl), rfl⟩)) rfl
theorem zs4_11 : Cond.selects "HourClock$Log" ⟨"HourClock$Log", "has", "(I)Z"⟩ ⟨"HourClock$Log", "has", "(I)Z"⟩ ∈ zW := zW_mem (List.mem_append_left _ (List.mem_map.mpr ⟨(⟨"HourClock$Log", "has", "(I)Z"⟩, 4), zp_4 (List.mem_of_getElem? (i := 11) rfl), rfl⟩)) rfl
theorem zs4_12 : Cond.selects "java/lang/Throwable" ⟨"java/lang/Throwable", "fillInStackTrace", "(I)Ljava/lang/Throwable;"⟩ ⟨"java/lang/Throwable", "fillInStackTrace", "(I)Ljava/lang/Throwable;"⟩ ∈ zW := zW_mem (List.mem_append_left _ (List.mem_map.mpr ⟨(⟨"java/lang/Throwable", "fillInStackTrace", "(I)Ljava/lang/Throwable;"⟩, 6), zp_4 (List.mem_of_getElem? (i := 12) rfl), rfl⟩)) rfl
theorem zs4_13 : Cond.selects "HourClock$Hour" ⟨"HourClock$Hour", "canHaveLength", "(II)Z"⟩ ⟨"HourClock$Hour", "canHaveLength", "(II)Z"⟩ ∈ zW := zW_mem (List.mem_append_left _ (List.mem_map.mpr ⟨(⟨"HourClock$Hour", "canHaveLength", "(II)Z"⟩, 11), zp_4 (List.mem_of_getElem? (i := 13) rfl), rfl⟩)) rfl
theorem zs4_14 : Cond.selects "HourClock$Hour" ⟨"HourClock$Hour", "giveLength", "(II)V"⟩ ⟨"HourClock$Hour", "giveLength", "(II)V"⟩ ∈ zW := zW_mem (List.mem_append_left _ (List.mem_map.mpr ⟨(⟨"HourClock$Hour", "giveLength", "(II)V"⟩, 11), zp_4 (List.mem_of_getElem? (i := 14) rfl), rfl⟩)) rfl
theorem zs4_15 : Cond.selects "HourClock$Fillers" ⟨"HourClock$Fillers", "leastSumAbove", "(I)I"⟩ ⟨"HourClock$Fillers", "leastSumAbove", "(I)I"⟩ ∈ zW := zW_mem (List.mem_append_left _ (List.mem_map.mpr ⟨(⟨"HourClock$Fillers", "leastSumAbove", "(I)I"⟩, 5), zp_4 (List.mem_of_getElem? (i := 15) rfl), rfl⟩)) rfl
theorem zs5_0 : Cond.selects "HourClock$Text" ⟨"HourClock$Text", "put", "(I)V"⟩ ⟨"HourClock$Text", "put", "(I)V"⟩ ∈ zW := zW_mem (List.mem_append_left _ (List.mem_map.mpr ⟨(⟨"HourClock$Text", "put", "(I)V"⟩, 4), zp_5 (List.mem_of_getElem? (i := 0) rfl), rfl⟩)) rfl
theorem zs5_1 : Cond.selects "HourClockModel" ⟨"HourClockModel", "fails", "(I)I"⟩ ⟨"HourClockModel", "fails", "(I)I"⟩ ∈ zW := zW_mem (List.mem_append_left _ (List.mem_map.mpr ⟨(⟨"HourClockModel", "fails", "(I)I"⟩, 11), zp_5 (List.mem_of_getElem? (i := 1) rfl), rfl⟩)) rfl
theorem zs5_2 : Cond.selects "HourClockModel" ⟨"HourClockModel", "save", "()V"⟩ ⟨"HourClockModel", "save", "()V"⟩ ∈ zW := zW_mem (List.mem_append_left _ (List.mem_map.mpr ⟨(⟨"HourClockModel", "save", "()V"⟩, 11), zp_5 (List.mem_of_getElem? (i := 2) rfl), rfl⟩)) rfl
theorem zs5_3 : Cond.selects "HourClockModel" ⟨"HourClockModel", "putElement", "(III)V"⟩ ⟨"HourClockModel", "putElement", "(III)V"⟩ ∈ zW := zW_mem (List.mem_append_left _ (List.mem_map.mpr ⟨(⟨"HourClockModel", "putElement", "(III)V"⟩, 11), zp_5 (List.mem_of_getElem? (i := 3) rfl), rfl⟩)) rfl
theorem zs5_4 : Cond.selects "HourClockModel" ⟨"HourClockModel", "putFiller", "(I)V"⟩ ⟨"HourClockModel", "putFiller", "(I)V"⟩ ∈ zW := zW_mem (List.mem_append_left _ (List.mem_map.mpr ⟨(⟨"HourClockModel", "putFiller", "(I)V"⟩, 11), zp_5 (List.mem_of_getElem? (i := 4) rfl), rfl⟩)) rfl
theorem zs5_5 : Cond.selects "HourClockModel" ⟨"HourClockModel", "isElement", "(I)Z"⟩ ⟨"HourClockModel", "isElement", "(I)Z"⟩ ∈ zW := zW_mem (List.mem_append_left _ (List.mem_map.mpr ⟨(⟨"HourClockModel", "isElement", "(I)Z"⟩, 11), zp_5 (List.mem_of_getElem? (i := 5) rfl), rfl⟩)) rfl
theorem zs5_6 : Cond.selects "HourClockModel" ⟨"HourClockModel", "of", "(II)I"⟩ ⟨"HourClockModel", "of", "(II)I"⟩ ∈ zW := zW_mem (List.mem_append_left _ (List.mem_map.mpr ⟨(⟨"HourClockModel", "of", "(II)I"⟩, 11), zp_5 (List.mem_of_getElem? (i := 6) rfl), rfl⟩)) rfl
theorem zs5_7 : Cond.selects "HourClockModel" ⟨"HourClockModel", "canBe", "(II)Z"⟩ ⟨"HourClockModel", "canBe", "(II)Z"⟩ ∈ zW := zW_mem (List.mem_append_left _ (List.mem_map.mpr ⟨(⟨"HourClockModel", "canBe", "(II)Z"⟩, 11), zp_5 (List.mem_of_getElem? (i := 7) rfl), rfl⟩)) rfl
theorem zs5_8 : Cond.selects "HourClockModel" ⟨"HourClockModel", "endsOnAir", "()V"⟩ ⟨"HourClockModel", "endsOnAir", "()V"⟩ ∈ zW := zW_mem (List.mem_append_left _ (List.mem_map.mpr ⟨(⟨"HourClockModel", "endsOnAir", "()V"⟩, 11), zp_5 (List.mem_of_getElem? (i := 8) rfl), rfl⟩)) rfl
theorem zs5_9 : Cond.selects "HourClockModel" ⟨"HourClockModel", "waits", "(I)Z"⟩ ⟨"HourClockModel", "waits", "(I)Z"⟩ ∈ zW := zW_mem (List.mem_append_left _ (List.mem_map.mpr ⟨(⟨"HourClockModel", "waits", "(I)Z"⟩, 11), zp_5 (List.mem_of_getElem? (i := 9) rfl), rfl⟩)) rfl
theorem zs5_10 : Cond.selects "HourClockModel" ⟨"HourClockModel", "lets", "(I)V"⟩ ⟨"HourClockModel", "lets", "(I)V"⟩ ∈ zW := zW_mem (List.mem_append_left _ (List.mem_map.mpr ⟨(⟨"HourClockModel", "lets", "(I)V"⟩, 11), zp_5 (List.mem_of_getElem? (i := 10) rfl), rfl⟩)) rfl
theorem zs5_11 : Cond.selects "HourClockModel" ⟨"HourClockModel", "logs", "(II)V"⟩ ⟨"HourClockModel", "logs", "(II)V"⟩ ∈ zW := zW_mem (List.mem_append_left _ (List.mem_map.mpr ⟨(⟨"HourClockModel", "logs", "(II)V"⟩, 11), zp_5 (List.mem_of_getElem? (i := 11) rfl), rfl⟩)) rfl
theorem zs5_12 : Cond.selects "HourClockModel" ⟨"HourClockModel", "inStatus", "(I)I"⟩ ⟨"HourClockModel", "inStatus", "(I)I"⟩ ∈ zW := zW_mem (List.mem_append_left _ (List.mem_map.mpr ⟨(⟨"HourClockModel", "inStatus", "(I)I"⟩, 11), zp_5 (List.mem_of_getElem? (i := 12) rfl), rfl⟩)) rfl
theorem zs5_13 : Cond.selects "HourClockModel" ⟨"HourClockModel", "goesOn", "(I)I"⟩ ⟨"HourClockModel", "goesOn", "(I)I"⟩ ∈ zW := zW_mem (List.mem_append_left _ (List.mem_map.mpr ⟨(⟨"HourClockModel", "goesOn", "(I)I"⟩, 11), zp_5 (List.mem_of_getElem? (i := 13) rfl), rfl⟩)) rfl
theorem zs5_14 : Cond.selects "HourClockModel" ⟨"HourClockModel", "finds", "()V"⟩ ⟨"HourClockModel", "finds", "()V"⟩ ∈ zW := zW_mem (List.mem_append_left _ (List.mem_map.mpr ⟨(⟨"HourClockModel", "finds", "()V"⟩, 11), zp_5 (List.mem_of_getElem? (i := 14) rfl), rfl⟩)) rfl
theorem zs5_15 : Cond.selects "HourClockModel" ⟨"HourClockModel", "nextFixed", "(I)I"⟩ ⟨"HourClockModel", "nextFixed", "(I)I"⟩ ∈ zW := zW_mem (List.mem_append_left _ (List.mem_map.mpr ⟨(⟨"HourClockModel", "nextFixed", "(I)I"⟩, 11), zp_5 (List.mem_of_getElem? (i := 15) rfl), rfl⟩)) rfl
theorem zs6_0 : Cond.selects "HourClockModel" ⟨"HourClockModel", "isFixed", "(I)Z"⟩ ⟨"HourClockModel", "isFixed", "(I)Z"⟩ ∈ zW := zW_mem (List.mem_append_left _ (List.mem_map.mpr ⟨(⟨"HourClockModel", "isFixed", "(I)Z"⟩, 11), zp_6 (List.mem_of_getElem? (i := 0) rfl), rfl⟩)) rfl
theorem zs6_1 : Cond.selects "HourClockModel" ⟨"HourClockModel", "timeAt", "(I)I"⟩ ⟨"HourClockModel", "timeAt", "(I)I"⟩ ∈ zW := zW_mem (List.mem_append_left _ (List.mem_map.mpr ⟨(⟨"HourClockModel", "timeAt", "(I)I"⟩, 11), zp_6 (List.mem_of_getElem? (i := 1) rfl), rfl⟩)) rfl
theorem zs6_2 : Cond.selects "HourClockModel" ⟨"HourClockModel", "lowest", "(I)I"⟩ ⟨"HourClockModel", "lowest", "(I)I"⟩ ∈ zW := zW_mem (List.mem_append_left _ (List.mem_map.mpr ⟨(⟨"HourClockModel", "lowest", "(I)I"⟩, 11), zp_6 (List.mem_of_getElem? (i := 2) rfl), rfl⟩)) rfl
theorem zs6_3 : Cond.selects "HourClockModel" ⟨"HourClockModel", "sectionLength", "(I)I"⟩ ⟨"HourClockModel", "sectionLength", "(I)I"⟩ ∈ zW := zW_mem (List.mem_append_left _ (List.mem_map.mpr ⟨(⟨"HourClockModel", "sectionLength", "(I)I"⟩, 11), zp_6 (List.mem_of_getElem? (i := 3) rfl), rfl⟩)) rfl
theorem zs6_4 : Cond.selects "HourClockModel" ⟨"HourClockModel", "firstWaiting", "(I)I"⟩ ⟨"HourClockModel", "firstWaiting", "(I)I"⟩ ∈ zW := zW_mem (List.mem_append_left _ (List.mem_map.mpr ⟨(⟨"HourClockModel", "firstWaiting", "(I)I"⟩, 11), zp_6 (List.mem_of_getElem? (i := 4) rfl), rfl⟩)) rfl
theorem zs6_5 : Cond.selects "HourClockModel" ⟨"HourClockModel", "beginsElement", "(I)V"⟩ ⟨"HourClockModel", "beginsElement", "(I)V"⟩ ∈ zW := zW_mem (List.mem_append_left _ (List.mem_map.mpr ⟨(⟨"HourClockModel", "beginsElement", "(I)V"⟩, 11), zp_6 (List.mem_of_getElem? (i := 5) rfl), rfl⟩)) rfl
theorem zs6_6 : Cond.selects "HourClockModel" ⟨"HourClockModel", "goesOnAir", "(III)V"⟩ ⟨"HourClockModel", "goesOnAir", "(III)V"⟩ ∈ zW := zW_mem (List.mem_append_left _ (List.mem_map.mpr ⟨(⟨"HourClockModel", "goesOnAir", "(III)V"⟩, 11), zp_6 (List.mem_of_getElem? (i := 6) rfl), rfl⟩)) rfl
theorem zs6_7 : Cond.selects "HourClockModel" ⟨"HourClockModel", "chosen", "(I)I"⟩ ⟨"HourClockModel", "chosen", "(I)I"⟩ ∈ zW := zW_mem (List.mem_append_left _ (List.mem_map.mpr ⟨(⟨"HourClockModel", "chosen", "(I)I"⟩, 11), zp_6 (List.mem_of_getElem? (i := 7) rfl), rfl⟩)) rfl
theorem zs6_8 : Cond.selects "HourClockModel" ⟨"HourClockModel", "waitingFillers", "()I"⟩ ⟨"HourClockModel", "waitingFillers", "()I"⟩ ∈ zW := zW_mem (List.mem_append_left _ (List.mem_map.mpr ⟨(⟨"HourClockModel", "waitingFillers", "()I"⟩, 11), zp_6 (List.mem_of_getElem? (i := 8) rfl), rfl⟩)) rfl
theorem zs6_9 : Cond.selects "HourClockModel" ⟨"HourClockModel", "ofFiller", "(II)I"⟩ ⟨"HourClockModel", "ofFiller", "(II)I"⟩ ∈ zW := zW_mem (List.mem_append_left _ (List.mem_map.mpr ⟨(⟨"HourClockModel", "ofFiller", "(II)I"⟩, 11), zp_6 (List.mem_of_getElem? (i := 9) rfl), rfl⟩)) rfl
theorem zs6_10 : Cond.selects "HourClockModel" ⟨"HourClockModel", "lengthOf", "(I)I"⟩ ⟨"HourClockModel", "lengthOf", "(I)I"⟩ ∈ zW := zW_mem (List.mem_append_left _ (List.mem_map.mpr ⟨(⟨"HourClockModel", "lengthOf", "(I)I"⟩, 11), zp_6 (List.mem_of_getElem? (i := 10) rfl), rfl⟩)) rfl
theorem zs6_11 : Cond.selects "HourClockModel" ⟨"HourClockModel", "beginsFiller", "(I)V"⟩ ⟨"HourClockModel", "beginsFiller", "(I)V"⟩ ∈ zW := zW_mem (List.mem_append_left _ (List.mem_map.mpr ⟨(⟨"HourClockModel", "beginsFiller", "(I)V"⟩, 11), zp_6 (List.mem_of_getElem? (i := 11) rfl), rfl⟩)) rfl
theorem zs6_12 : Cond.selects "HourClockModel" ⟨"HourClockModel", "begins", "()V"⟩ ⟨"HourClockModel", "begins", "()V"⟩ ∈ zW := zW_mem (List.mem_append_left _ (List.mem_map.mpr ⟨(⟨"HourClockModel", "begins", "()V"⟩, 11), zp_6 (List.mem_of_getElem? (i := 12) rfl), rfl⟩)) rfl
theorem zs6_13 : Cond.selects "HourClockModel" ⟨"HourClockModel", "elementOf", "(II)I"⟩ ⟨"HourClockModel", "elementOf", "(II)I"⟩ ∈ zW := zW_mem (List.mem_append_left _ (List.mem_map.mpr ⟨(⟨"HourClockModel", "elementOf", "(II)I"⟩, 11), zp_6 (List.mem_of_getElem? (i := 13) rfl), rfl⟩)) rfl
theorem zs6_14 : Cond.selects "HourClockModel" ⟨"HourClockModel", "latenessOf", "(I)I"⟩ ⟨"HourClockModel", "latenessOf", "(I)I"⟩ ∈ zW := zW_mem (List.mem_append_left _ (List.mem_map.mpr ⟨(⟨"HourClockModel", "latenessOf", "(I)I"⟩, 11), zp_6 (List.mem_of_getElem? (i := 14) rfl), rfl⟩)) rfl
theorem zs6_15 : Cond.selects "HourClockModel" ⟨"HourClockModel", "isInSection", "(I)Z"⟩ ⟨"HourClockModel", "isInSection", "(I)Z"⟩ ∈ zW := zW_mem (List.mem_append_left _ (List.mem_map.mpr ⟨(⟨"HourClockModel", "isInSection", "(I)Z"⟩, 11), zp_6 (List.mem_of_getElem? (i := 15) rfl), rfl⟩)) rfl
theorem zs7_0 : Cond.selects "HourClockModel" ⟨"HourClockModel", "tells", "(I)I"⟩ ⟨"HourClockModel", "tells", "(I)I"⟩ ∈ zW := zW_mem (List.mem_append_left _ (List.mem_map.mpr ⟨(⟨"HourClockModel", "tells", "(I)I"⟩, 11), zp_7 (List.mem_of_getElem? (i := 0) rfl), rfl⟩)) rfl
theorem zs7_1 : Cond.selects "HourClockModel" ⟨"HourClockModel", "isFiller", "(I)Z"⟩ ⟨"HourClockModel", "isFiller", "(I)Z"⟩ ∈ zW := zW_mem (List.mem_append_left _ (List.mem_map.mpr ⟨(⟨"HourClockModel", "isFiller", "(I)Z"⟩, 11), zp_7 (List.mem_of_getElem? (i := 1) rfl), rfl⟩)) rfl
theorem zs7_2 : Cond.selects "HourClockModel" ⟨"HourClockModel", "valueOf", "(I)I"⟩ ⟨"HourClockModel", "valueOf", "(I)I"⟩ ∈ zW := zW_mem (List.mem_append_left _ (List.mem_map.mpr ⟨(⟨"HourClockModel", "valueOf", "(I)I"⟩, 11), zp_7 (List.mem_of_getElem? (i := 2) rfl), rfl⟩)) rfl
theorem zs7_3 : Cond.selects "HourClockModel" ⟨"HourClockModel", "goal", "()I"⟩ ⟨"HourClockModel", "goal", "()I"⟩ ∈ zW := zW_mem (List.mem_append_left _ (List.mem_map.mpr ⟨(⟨"HourClockModel", "goal", "()I"⟩, 11), zp_7 (List.mem_of_getElem? (i := 3) rfl), rfl⟩)) rfl
theorem zs7_4 : Cond.selects "HourClockModel" ⟨"HourClockModel", "greatest", "()I"⟩ ⟨"HourClockModel", "greatest", "()I"⟩ ∈ zW := zW_mem (List.mem_append_left _ (List.mem_map.mpr ⟨(⟨"HourClockModel", "greatest", "()I"⟩, 11), zp_7 (List.mem_of_getElem? (i := 4) rfl), rfl⟩)) rfl
theorem zs7_5 : Cond.selects "HourClockModel" ⟨"HourClockModel", "backOf", "(I)I"⟩ ⟨"HourClockModel", "backOf", "(I)I"⟩ ∈ zW := zW_mem (List.mem_append_left _ (List.mem_map.mpr ⟨(⟨"HourClockModel", "backOf", "(I)I"⟩, 11), zp_7 (List.mem_of_getElem? (i := 5) rfl), rfl⟩)) rfl
theorem zs7_6 : Cond.selects "HourClockModel" ⟨"HourClockModel", "foresees", "()V"⟩ ⟨"HourClockModel", "foresees", "()V"⟩ ∈ zW := zW_mem (List.mem_append_left _ (List.mem_map.mpr ⟨(⟨"HourClockModel", "foresees", "()V"⟩, 11), zp_7 (List.mem_of_getElem? (i := 6) rfl), rfl⟩)) rfl
theorem zs7_7 : Cond.selects "HourClockModel" ⟨"HourClockModel", "fullAbove", "(I)I"⟩ ⟨"HourClockModel", "fullAbove", "(I)I"⟩ ∈ zW := zW_mem (List.mem_append_left _ (List.mem_map.mpr ⟨(⟨"HourClockModel", "fullAbove", "(I)I"⟩, 11), zp_7 (List.mem_of_getElem? (i := 7) rfl), rfl⟩)) rfl
theorem zs7_8 : Cond.selects "HourClockModel" ⟨"HourClockModel", "doneThen", "()I"⟩ ⟨"HourClockModel", "doneThen", "()I"⟩ ∈ zW := zW_mem (List.mem_append_left _ (List.mem_map.mpr ⟨(⟨"HourClockModel", "doneThen", "()I"⟩, 11), zp_7 (List.mem_of_getElem? (i := 8) rfl), rfl⟩)) rfl
theorem zs7_9 : Cond.selects "HourClockModel" ⟨"HourClockModel", "reads", "()Z"⟩ ⟨"HourClockModel", "reads", "()Z"⟩ ∈ zW := zW_mem (List.mem_append_left _ (List.mem_map.mpr ⟨(⟨"HourClockModel", "reads", "()Z"⟩, 11), zp_7 (List.mem_of_getElem? (i := 9) rfl), rfl⟩)) rfl
theorem zs7_10 : Cond.selects "HourClockModel" ⟨"HourClockModel", "isAt", "(II)Z"⟩ ⟨"HourClockModel", "isAt", "(II)Z"⟩ ∈ zW := zW_mem (List.mem_append_left _ (List.mem_map.mpr ⟨(⟨"HourClockModel", "isAt", "(II)Z"⟩, 11), zp_7 (List.mem_of_getElem? (i := 10) rfl), rfl⟩)) rfl
theorem zs7_11 : Cond.selects "HourClockModel" ⟨"HourClockModel", "readsFiller", "()Z"⟩ ⟨"HourClockModel", "readsFiller", "()Z"⟩ ∈ zW := zW_mem (List.mem_append_left _ (List.mem_map.mpr ⟨(⟨"HourClockModel", "readsFiller", "()Z"⟩, 11), zp_7 (List.mem_of_getElem? (i := 11) rfl), rfl⟩)) rfl
theorem zs7_12 : Cond.selects "HourClockModel" ⟨"HourClockModel", "readsNumber", "(III)Z"⟩ ⟨"HourClockModel", "readsNumber", "(III)Z"⟩ ∈ zW := zW_mem (List.mem_append_left _ (List.mem_map.mpr ⟨(⟨"HourClockModel", "readsNumber", "(III)Z"⟩, 11), zp_7 (List.mem_of_getElem? (i := 12) rfl), rfl⟩)) rfl
theorem zs7_13 : Cond.selects "HourClockModel" ⟨"HourClockModel", "takes", "(I)Z"⟩ ⟨"HourClockModel", "takes", "(I)Z"⟩ ∈ zW := zW_mem (List.mem_append_left _ (List.mem_map.mpr ⟨(⟨"HourClockModel", "takes", "(I)Z"⟩, 11), zp_7 (List.mem_of_getElem? (i := 13) rfl), rfl⟩)) rfl
theorem zs7_14 : Cond.selects "HourClockModel" ⟨"HourClockModel", "readsElement", "()Z"⟩ ⟨"HourClockModel", "readsElement", "()Z"⟩ ∈ zW := zW_mem (List.mem_append_left _ (List.mem_map.mpr ⟨(⟨"HourClockModel", "readsElement", "()Z"⟩, 11), zp_7 (List.mem_of_getElem? (i := 14) rfl), rfl⟩)) rfl
theorem zs7_15 : Cond.selects "HourClockModel" ⟨"HourClockModel", "mix", "(I)V"⟩ ⟨"HourClockModel", "mix", "(I)V"⟩ ∈ zW := zW_mem (List.mem_append_left _ (List.mem_map.mpr ⟨(⟨"HourClockModel", "mix", "(I)V"⟩, 11), zp_7 (List.mem_of_getElem? (i := 15) rfl), rfl⟩)) rfl
def zNF : List zNFt := [("HourClock", 53, "HourClock$Elements", "count", "I", "HourClock"), ("HourClock$Hour", 78, "HourClock$Elements", "count", "I", "HourClock"), ("HourClock$Text", 46, "HourClock$Elements", "count", "I", "HourClock"), ("HourClock", 93, "HourClock$Elements", "length", "[I", "HourClock"), ("HourClock$Hour", 166, "HourClock$Elements", "length", "[I", "HourClock"), ("HourClock$Hour", 103, "HourClock$Elements", "state", "[I", "HourClock"), ("HourClock$Hour", 159, "HourClock$Elements", "begun", "[I", "HourClock"), ("HourClock$Fillers", 52, "HourClock$SetWalk", "set", "I", "HourClock"), ("HourClock$Fillers", 46, "HourClock$SetWalk", "sum", "I", "HourClock"), ("HourClock$Fillers", 49, "HourClock$SetWalk", "size", "I", "HourClock"), ("HourClock$SetWalk", 31, "HourClock$Fillers", "count", "I", "HourClock"), ("HourClock", 74, "HourClock$Fillers", "count", "I", "HourClock"), ("HourClock$Hour", 79, "HourClock$Fillers", "count", "I", "HourClock"), ("HourClock$Text", 59, "HourClock$Fillers", "count", "I", "HourClock"), ("HourClock$SetWalk", 37, "HourClock$Fillers", "length", "[I", "HourClock"), ("HourClock$Hour", 153, "HourClock$Fillers", "length", "[I", "HourClock"), ("HourClock$SetWalk", 34, "HourClock$Fillers", "state", "[I", "HourClock"), ("HourClock$Hour", 108, "HourClock$Fillers", "state", "[I", "HourClock"), ("HourClock$Hour", 150, "HourClock$Fillers", "begun", "[I", "HourClock"), ("HourClock$Hour", 72, "HourClock$Log", "count", "I", "HourClock"), ("HourClock", 206, "HourClock$Log", "count", "I", "HourClock"), ("HourClock", 49, "HourClock$Hour", "elements", "LHourClock$Elements;", "HourClock"), ("HourClock$Text", 42, "HourClock$Hour", "elements", "LHourClock$Elements;", "HourClock"), ("HourClock", 70, "HourClock$Hour", "fillers", "LHourClock$Fillers;", "HourClock"), ("HourClock$Text", 55, "HourClock$Hour", "fillers", "LHourClock$Fillers;", "HourClock"), ("HourClock", 147, "HourClock$Hour", "log", "LHourClock$Log;", "HourClock"), ("HourClock", 120, "HourClock$Hour", "second", "I", "HourClock"), ("HourClock", 45, "HourClock$Hour", "over", "Z", "HourClock"), ("HourClock", 170, "HourClock$Hour", "silentSeconds", "I", "HourClock"), ("HourClock", 132, "HourClock$Hour", "hoursBegun", "I", "HourClock"), ("HourClock", 185, "HourClock$Text", "length", "I", "HourClock")]
def zNM : List zNMt := [("HourClock", 11, ⟨"HourClock$Hour", "<init>", "()V"⟩, "HourClock"), ("HourClock$Hour", 11, ⟨"HourClock$Elements", "<init>", "()V"⟩, "HourClock"), ("HourClock$Hour", 20, ⟨"HourClock$Fillers", "<init>", "()V"⟩, "HourClock"), ("HourClock$Fillers", 27, ⟨"HourClock$SetWalk", "<init>", "()V"⟩, "HourClock"), ("HourClock$Hour", 27, ⟨"HourClock$Log", "<init>", "()V"⟩, "HourClock"), ("HourClock", 29, ⟨"HourClock$Text", "<init>", "()V"⟩, "HourClock"), ("HourClock", 196, ⟨"HourClock$Hour", "copyFrom", "(LHourClock$Hour;)V"⟩, "HourClock"), ("HourClock$Hour", 58, ⟨"HourClock$Elements", "copyFrom", "(LHourClock$Elements;)V"⟩, "HourClock"), ("HourClock$Hour", 62, ⟨"HourClock$Fillers", "copyFrom", "(LHourClock$Fillers;)V"⟩, "HourClock"), ("HourClock$Hour", 65, ⟨"HourClock$Log", "copyFrom", "(LHourClock$Log;)V"⟩, "HourClock"), ("HourClock", 123, ⟨"HourClock$Hour", "runTo", "(I)V"⟩, "HourClock"), ("HourClock$Hour", 128, ⟨"HourClock$Elements", "leastOfSection", "()I"⟩, "HourClock"), ("HourClock$Hour", 131, ⟨"HourClock$Elements", "sectionLength", "()I"⟩, "HourClock"), ("HourClock$Hour", 119, ⟨"HourClock$Elements", "goal", "()I"⟩, "HourClock"), ("HourClock$Hour", 99, ⟨"HourClock$Elements", "has", "(I)Z"⟩, "HourClock"), ("HourClock$Hour", 137, ⟨"HourClock$Log", "add", "(III)V"⟩, "HourClock"), ("HourClock$Hour", 112, ⟨"HourClock$Elements", "firstThatWaits", "()I"⟩, "HourClock"), ("HourClock$Hour", 116, ⟨"HourClock$Elements", "isFixed", "(I)Z"⟩, "HourClock"), ("HourClock$Hour", 141, ⟨"HourClock$Fillers", "chooseFor", "(I)I"⟩, "HourClock"), ("HourClock$Fillers", 38, ⟨"HourClock$SetWalk", "begin", "(LHourClock$Fillers;)I"⟩, "HourClock"), ("HourClock$Fillers", 42, ⟨"HourClock$SetWalk", "go", "(I)V"⟩, "HourClock"), ("HourClock$Hour", 107, ⟨"HourClock$Fillers", "has", "(I)Z"⟩, "HourClock"), ("HourClock$Hour", 160, ⟨"HourClock$Elements", "lateness", "(I)I"⟩, "HourClock"), ("HourClock", 82, ⟨"HourClock$Elements", "has", "(I)Z"⟩, "HourClock"), ("HourClock", 111, ⟨"HourClock$Hour", "dropElement", "(I)V"⟩, "HourClock"), ("HourClock", 106, ⟨"HourClock$Elements", "waits", "(I)Z"⟩, "HourClock"), ("HourClock", 167, ⟨"HourClock$Elements", "is", "(II)Z"⟩, "HourClock"), ("HourClock", 114, ⟨"HourClock$Elements", "countThatAre", "(I)I"⟩, "HourClock"), ("HourClock", 192, ⟨"HourClock$Text", "readInto", "(LHourClock$Hour;)I"⟩, "HourClock"), ("HourClock$Text", 25, ⟨"HourClock$Hour", "becomeEmpty", "()V"⟩, "HourClock"), ("HourClock$Hour", 68, ⟨"HourClock$Elements", "allWait", "()V"⟩, "HourClock"), ("HourClock$Hour", 71, ⟨"HourClock$Fillers", "allWait", "()V"⟩, "HourClock"), ("HourClock$Text", 82, ⟨"HourClock$Elements", "add", "(III)V"⟩, "HourClock"), ("HourClock$Text", 86, ⟨"HourClock$Fillers", "add", "(I)V"⟩, "HourClock"), ("HourClock", 145, ⟨"HourClock$Hour", "tell", "(I)I"⟩, "HourClock"), ("HourClock$Hour", 177, ⟨"HourClock$Elements", "countThatAre", "(I)I"⟩, "HourClock"), ("HourClock$Hour", 180, ⟨"HourClock$Fillers", "countThatWait", "()I"⟩, "HourClock"), ("HourClock", 137, ⟨"HourClock$Elements", "tell", "(II)I"⟩, "HourClock"), ("HourClock", 157, ⟨"HourClock$Elements", "latestBegin", "(I)I"⟩, "HourClock"), ("HourClock", 164, ⟨"HourClock$Elements", "begunAt", "(I)I"⟩, "HourClock"), ("HourClock", 144, ⟨"HourClock$Fillers", "tell", "(II)I"⟩, "HourClock"), ("HourClock", 156, ⟨"HourClock$Log", "tell", "(II)I"⟩, "HourClock"), ("HourClock", 66, ⟨"HourClock$Elements", "add", "(III)V"⟩, "HourClock"), ("HourClock", 79, ⟨"HourClock$Fillers", "add", "(I)V"⟩, "HourClock"), ("HourClock", 96, ⟨"HourClock$Hour", "canHaveLength", "(II)Z"⟩, "HourClock"), ("HourClock$Hour", 167, ⟨"HourClock$Elements", "is", "(II)Z"⟩, "HourClock"), ("HourClock$Hour", 171, ⟨"HourClock$Elements", "begunAt", "(I)I"⟩, "HourClock"), ("HourClock$Hour", 174, ⟨"HourClock$Elements", "waits", "(I)Z"⟩, "HourClock"), ("HourClock", 102, ⟨"HourClock$Hour", "giveLength", "(II)V"⟩, "HourClock"), ("HourClock", 129, ⟨"HourClock$Hour", "beginAnew", "()V"⟩, "HourClock"), ("HourClock", 141, ⟨"HourClock$Fillers", "has", "(I)Z"⟩, "HourClock"), ("HourClock", 151, ⟨"HourClock$Log", "has", "(I)Z"⟩, "HourClock"), ("HourClock", 175, ⟨"HourClock$Fillers", "chooseFor", "(I)I"⟩, "HourClock"), ("HourClock", 180, ⟨"HourClock$Fillers", "leastSumAbove", "(I)I"⟩, "HourClock"), ("HourClock", 189, ⟨"HourClock$Text", "put", "(I)V"⟩, "HourClock")]
theorem zf_0 {g : zG} {U : State} (h : zK zNF zNM g U) : va_Nw (.fieldLinkNest "HourClock" 53 "HourClock$Elements" "count" "I" "HourClock") U := h.2.1 ("HourClock", 53, "HourClock$Elements", "count", "I", "HourClock") (List.mem_of_getElem? (i := 0) rfl)
theorem zf_1 {g : zG} {U : State} (h : zK zNF zNM g U) : va_Nw (.fieldLinkNest "HourClock$Hour" 78 "HourClock$Elements" "count" "I" "HourClock") U := h.2.1 ("HourClock$Hour", 78, "HourClock$Elements", "count", "I", "HourClock") (List.mem_of_getElem? (i := 1) rfl)
theorem zf_2 {g : zG} {U : State} (h : zK zNF zNM g U) : va_Nw (.fieldLinkNest "HourClock$Text" 46 "HourClock$Elements" "count" "I" "HourClock") U := h.2.1 ("HourClock$Text", 46, "HourClock$Elements", "count", "I", "HourClock") (List.mem_of_getElem? (i := 2) rfl)
theorem zf_3 {g : zG} {U : State} (h : zK zNF zNM g U) : va_Nw (.fieldLinkNest "HourClock" 93 "HourClock$Elements" "length" "[I" "HourClock") U := h.2.1 ("HourClock", 93, "HourClock$Elements", "length", "[I", "HourClock") (List.mem_of_getElem? (i := 3) rfl)
theorem zf_4 {g : zG} {U : State} (h : zK zNF zNM g U) : va_Nw (.fieldLinkNest "HourClock$Hour" 166 "HourClock$Elements" "length" "[I" "HourClock") U := h.2.1 ("HourClock$Hour", 166, "HourClock$Elements", "length", "[I", "HourClock") (List.mem_of_getElem? (i := 4) rfl)
theorem zf_5 {g : zG} {U : State} (h : zK zNF zNM g U) : va_Nw (.fieldLinkNest "HourClock$Hour" 103 "HourClock$Elements" "state" "[I" "HourClock") U := h.2.1 ("HourClock$Hour", 103, "HourClock$Elements", "state", "[I", "HourClock") (List.mem_of_getElem? (i := 5) rfl)
theorem zf_6 {g : zG} {U : State} (h : zK zNF zNM g U) : va_Nw (.fieldLinkNest "HourClock$Hour" 159 "HourClock$Elements" "begun" "[I" "HourClock") U := h.2.1 ("HourClock$Hour", 159, "HourClock$Elements", "begun", "[I", "HourClock") (List.mem_of_getElem? (i := 6) rfl)
theorem zf_7 {g : zG} {U : State} (h : zK zNF zNM g U) : va_Nw (.fieldLinkNest "HourClock$Fillers" 52 "HourClock$SetWalk" "set" "I" "HourClock") U := h.2.1 ("HourClock$Fillers", 52, "HourClock$SetWalk", "set", "I", "HourClock") (List.mem_of_getElem? (i := 7) rfl)
theorem zf_8 {g : zG} {U : State} (h : zK zNF zNM g U) : va_Nw (.fieldLinkNest "HourClock$Fillers" 46 "HourClock$SetWalk" "sum" "I" "HourClock") U := h.2.1 ("HourClock$Fillers", 46, "HourClock$SetWalk", "sum", "I", "HourClock") (List.mem_of_getElem? (i := 8) rfl)
theorem zf_9 {g : zG} {U : State} (h : zK zNF zNM g U) : va_Nw (.fieldLinkNest "HourClock$Fillers" 49 "HourClock$SetWalk" "size" "I" "HourClock") U := h.2.1 ("HourClock$Fillers", 49, "HourClock$SetWalk", "size", "I", "HourClock") (List.mem_of_getElem? (i := 9) rfl)
theorem zf_10 {g : zG} {U : State} (h : zK zNF zNM g U) : va_Nw (.fieldLinkNest "HourClock$SetWalk" 31 "HourClock$Fillers" "count" "I" "HourClock") U := h.2.1 ("HourClock$SetWalk", 31, "HourClock$Fillers", "count", "I", "HourClock") (List.mem_of_getElem? (i := 10) rfl)
theorem zf_11 {g : zG} {U : State} (h : zK zNF zNM g U) : va_Nw (.fieldLinkNest "HourClock" 74 "HourClock$Fillers" "count" "I" "HourClock") U := h.2.1 ("HourClock", 74, "HourClock$Fillers", "count", "I", "HourClock") (List.mem_of_getElem? (i := 11) rfl)
theorem zf_12 {g : zG} {U : State} (h : zK zNF zNM g U) : va_Nw (.fieldLinkNest "HourClock$Hour" 79 "HourClock$Fillers" "count" "I" "HourClock") U := h.2.1 ("HourClock$Hour", 79, "HourClock$Fillers", "count", "I", "HourClock") (List.mem_of_getElem? (i := 12) rfl)
theorem zf_13 {g : zG} {U : State} (h : zK zNF zNM g U) : va_Nw (.fieldLinkNest "HourClock$Text" 59 "HourClock$Fillers" "count" "I" "HourClock") U := h.2.1 ("HourClock$Text", 59, "HourClock$Fillers", "count", "I", "HourClock") (List.mem_of_getElem? (i := 13) rfl)
theorem zf_14 {g : zG} {U : State} (h : zK zNF zNM g U) : va_Nw (.fieldLinkNest "HourClock$SetWalk" 37 "HourClock$Fillers" "length" "[I" "HourClock") U := h.2.1 ("HourClock$SetWalk", 37, "HourClock$Fillers", "length", "[I", "HourClock") (List.mem_of_getElem? (i := 14) rfl)
theorem zf_15 {g : zG} {U : State} (h : zK zNF zNM g U) : va_Nw (.fieldLinkNest "HourClock$Hour" 153 "HourClock$Fillers" "length" "[I" "HourClock") U := h.2.1 ("HourClock$Hour", 153, "HourClock$Fillers", "length", "[I", "HourClock") (List.mem_of_getElem? (i := 15) rfl)
theorem zf_16 {g : zG} {U : State} (h : zK zNF zNM g U) : va_Nw (.fieldLinkNest "HourClock$SetWalk" 34 "HourClock$Fillers" "state" "[I" "HourClock") U := h.2.1 ("HourClock$SetWalk", 34, "HourClock$Fillers", "state", "[I", "HourClock") (List.mem_of_getElem? (i := 16) rfl)
theorem zf_17 {g : zG} {U : State} (h : zK zNF zNM g U) : va_Nw (.fieldLinkNest "HourClock$Hour" 108 "HourClock$Fillers" "state" "[I" "HourClock") U := h.2.1 ("HourClock$Hour", 108, "HourClock$Fillers", "state", "[I", "HourClock") (List.mem_of_getElem? (i := 17) rfl)
theorem zf_18 {g : zG} {U : State} (h : zK zNF zNM g U) : va_Nw (.fieldLinkNest "HourClock$Hour" 150 "HourClock$Fillers" "begun" "[I" "HourClock") U := h.2.1 ("HourClock$Hour", 150, "HourClock$Fillers", "begun", "[I", "HourClock") (List.mem_of_getElem? (i := 18) rfl)
theorem zf_19 {g : zG} {U : State} (h : zK zNF zNM g U) : va_Nw (.fieldLinkNest "HourClock$Hour" 72 "HourClock$Log" "count" "I" "HourClock") U := h.2.1 ("HourClock$Hour", 72, "HourClock$Log", "count", "I", "HourClock") (List.mem_of_getElem? (i := 19) rfl)
theorem zf_20 {g : zG} {U : State} (h : zK zNF zNM g U) : va_Nw (.fieldLinkNest "HourClock" 206 "HourClock$Log" "count" "I" "HourClock") U := h.2.1 ("HourClock", 206, "HourClock$Log", "count", "I", "HourClock") (List.mem_of_getElem? (i := 20) rfl)
theorem zf_21 {g : zG} {U : State} (h : zK zNF zNM g U) : va_Nw (.fieldLinkNest "HourClock" 49 "HourClock$Hour" "elements" "LHourClock$Elements;" "HourClock") U := h.2.1 ("HourClock", 49, "HourClock$Hour", "elements", "LHourClock$Elements;", "HourClock") (List.mem_of_getElem? (i := 21) rfl)
theorem zf_22 {g : zG} {U : State} (h : zK zNF zNM g U) : va_Nw (.fieldLinkNest "HourClock$Text" 42 "HourClock$Hour" "elements" "LHourClock$Elements;" "HourClock") U := h.2.1 ("HourClock$Text", 42, "HourClock$Hour", "elements", "LHourClock$Elements;", "HourClock") (List.mem_of_getElem? (i := 22) rfl)
theorem zf_23 {g : zG} {U : State} (h : zK zNF zNM g U) : va_Nw (.fieldLinkNest "HourClock" 70 "HourClock$Hour" "fillers" "LHourClock$Fillers;" "HourClock") U := h.2.1 ("HourClock", 70, "HourClock$Hour", "fillers", "LHourClock$Fillers;", "HourClock") (List.mem_of_getElem? (i := 23) rfl)
theorem zf_24 {g : zG} {U : State} (h : zK zNF zNM g U) : va_Nw (.fieldLinkNest "HourClock$Text" 55 "HourClock$Hour" "fillers" "LHourClock$Fillers;" "HourClock") U := h.2.1 ("HourClock$Text", 55, "HourClock$Hour", "fillers", "LHourClock$Fillers;", "HourClock") (List.mem_of_getElem? (i := 24) rfl)
theorem zf_25 {g : zG} {U : State} (h : zK zNF zNM g U) : va_Nw (.fieldLinkNest "HourClock" 147 "HourClock$Hour" "log" "LHourClock$Log;" "HourClock") U := h.2.1 ("HourClock", 147, "HourClock$Hour", "log", "LHourClock$Log;", "HourClock") (List.mem_of_getElem? (i := 25) rfl)
theorem zf_26 {g : zG} {U : State} (h : zK zNF zNM g U) : va_Nw (.fieldLinkNest "HourClock" 120 "HourClock$Hour" "second" "I" "HourClock") U := h.2.1 ("HourClock", 120, "HourClock$Hour", "second", "I", "HourClock") (List.mem_of_getElem? (i := 26) rfl)
theorem zf_27 {g : zG} {U : State} (h : zK zNF zNM g U) : va_Nw (.fieldLinkNest "HourClock" 45 "HourClock$Hour" "over" "Z" "HourClock") U := h.2.1 ("HourClock", 45, "HourClock$Hour", "over", "Z", "HourClock") (List.mem_of_getElem? (i := 27) rfl)
theorem zf_28 {g : zG} {U : State} (h : zK zNF zNM g U) : va_Nw (.fieldLinkNest "HourClock" 170 "HourClock$Hour" "silentSeconds" "I" "HourClock") U := h.2.1 ("HourClock", 170, "HourClock$Hour", "silentSeconds", "I", "HourClock") (List.mem_of_getElem? (i := 28) rfl)
theorem zf_29 {g : zG} {U : State} (h : zK zNF zNM g U) : va_Nw (.fieldLinkNest "HourClock" 132 "HourClock$Hour" "hoursBegun" "I" "HourClock") U := h.2.1 ("HourClock", 132, "HourClock$Hour", "hoursBegun", "I", "HourClock") (List.mem_of_getElem? (i := 29) rfl)
theorem zf_30 {g : zG} {U : State} (h : zK zNF zNM g U) : va_Nw (.fieldLinkNest "HourClock" 185 "HourClock$Text" "length" "I" "HourClock") U := h.2.1 ("HourClock", 185, "HourClock$Text", "length", "I", "HourClock") (List.mem_of_getElem? (i := 30) rfl)
theorem zn_0 {g : zG} {U : State} (h : zK zNF zNM g U) : va_Nw (.methodLinkNest "HourClock" 11 ⟨"HourClock$Hour", "<init>", "()V"⟩ "HourClock") U := h.2.2 ("HourClock", 11, ⟨"HourClock$Hour", "<init>", "()V"⟩, "HourClock") (List.mem_of_getElem? (i := 0) rfl)
theorem zn_1 {g : zG} {U : State} (h : zK zNF zNM g U) : va_Nw (.methodLinkNest "HourClock$Hour" 11 ⟨"HourClock$Elements", "<init>", "()V"⟩ "HourClock") U := h.2.2 ("HourClock$Hour", 11, ⟨"HourClock$Elements", "<init>", "()V"⟩, "HourClock") (List.mem_of_getElem? (i := 1) rfl)
theorem zn_2 {g : zG} {U : State} (h : zK zNF zNM g U) : va_Nw (.methodLinkNest "HourClock$Hour" 20 ⟨"HourClock$Fillers", "<init>", "()V"⟩ "HourClock") U := h.2.2 ("HourClock$Hour", 20, ⟨"HourClock$Fillers", "<init>", "()V"⟩, "HourClock") (List.mem_of_getElem? (i := 2) rfl)
theorem zn_3 {g : zG} {U : State} (h : zK zNF zNM g U) : va_Nw (.methodLinkNest "HourClock$Fillers" 27 ⟨"HourClock$SetWalk", "<init>", "()V"⟩ "HourClock") U := h.2.2 ("HourClock$Fillers", 27, ⟨"HourClock$SetWalk", "<init>", "()V"⟩, "HourClock") (List.mem_of_getElem? (i := 3) rfl)
theorem zn_4 {g : zG} {U : State} (h : zK zNF zNM g U) : va_Nw (.methodLinkNest "HourClock$Hour" 27 ⟨"HourClock$Log", "<init>", "()V"⟩ "HourClock") U := h.2.2 ("HourClock$Hour", 27, ⟨"HourClock$Log", "<init>", "()V"⟩, "HourClock") (List.mem_of_getElem? (i := 4) rfl)
theorem zn_5 {g : zG} {U : State} (h : zK zNF zNM g U) : va_Nw (.methodLinkNest "HourClock" 29 ⟨"HourClock$Text", "<init>", "()V"⟩ "HourClock") U := h.2.2 ("HourClock", 29, ⟨"HourClock$Text", "<init>", "()V"⟩, "HourClock") (List.mem_of_getElem? (i := 5) rfl)
theorem zn_6 {g : zG} {U : State} (h : zK zNF zNM g U) : va_Nw (.methodLinkNest "HourClock" 196 ⟨"HourClock$Hour", "copyFrom", "(LHourClock$Hour;)V"⟩ "HourClock") U := h.2.2 ("HourClock", 196, ⟨"HourClock$Hour", "copyFrom", "(LHourClock$Hour;)V"⟩, "HourClock") (List.mem_of_getElem? (i := 6) rfl)
theorem zn_7 {g : zG} {U : State} (h : zK zNF zNM g U) : va_Nw (.methodLinkNest "HourClock$Hour" 58 ⟨"HourClock$Elements", "copyFrom", "(LHourClock$Elements;)V"⟩ "HourClock") U := h.2.2 ("HourClock$Hour", 58, ⟨"HourClock$Elements", "copyFrom", "(LHourClock$Elements;)V"⟩, "HourClock") (List.mem_of_getElem? (i := 7) rfl)
theorem zn_8 {g : zG} {U : State} (h : zK zNF zNM g U) : va_Nw (.methodLinkNest "HourClock$Hour" 62 ⟨"HourClock$Fillers", "copyFrom", "(LHourClock$Fillers;)V"⟩ "HourClock") U := h.2.2 ("HourClock$Hour", 62, ⟨"HourClock$Fillers", "copyFrom", "(LHourClock$Fillers;)V"⟩, "HourClock") (List.mem_of_getElem? (i := 8) rfl)
theorem zn_9 {g : zG} {U : State} (h : zK zNF zNM g U) : va_Nw (.methodLinkNest "HourClock$Hour" 65 ⟨"HourClock$Log", "copyFrom", "(LHourClock$Log;)V"⟩ "HourClock") U := h.2.2 ("HourClock$Hour", 65, ⟨"HourClock$Log", "copyFrom", "(LHourClock$Log;)V"⟩, "HourClock") (List.mem_of_getElem? (i := 9) rfl)
theorem zn_10 {g : zG} {U : State} (h : zK zNF zNM g U) : va_Nw (.methodLinkNest "HourClock" 123 ⟨"HourClock$Hour", "runTo", "(I)V"⟩ "HourClock") U := h.2.2 ("HourClock", 123, ⟨"HourClock$Hour", "runTo", "(I)V"⟩, "HourClock") (List.mem_of_getElem? (i := 10) rfl)
theorem zn_11 {g : zG} {U : State} (h : zK zNF zNM g U) : va_Nw (.methodLinkNest "HourClock$Hour" 128 ⟨"HourClock$Elements", "leastOfSection", "()I"⟩ "HourClock") U := h.2.2 ("HourClock$Hour", 128, ⟨"HourClock$Elements", "leastOfSection", "()I"⟩, "HourClock") (List.mem_of_getElem? (i := 11) rfl)
theorem zn_12 {g : zG} {U : State} (h : zK zNF zNM g U) : va_Nw (.methodLinkNest "HourClock$Hour" 131 ⟨"HourClock$Elements", "sectionLength", "()I"⟩ "HourClock") U := h.2.2 ("HourClock$Hour", 131, ⟨"HourClock$Elements", "sectionLength", "()I"⟩, "HourClock") (List.mem_of_getElem? (i := 12) rfl)
theorem zn_13 {g : zG} {U : State} (h : zK zNF zNM g U) : va_Nw (.methodLinkNest "HourClock$Hour" 119 ⟨"HourClock$Elements", "goal", "()I"⟩ "HourClock") U := h.2.2 ("HourClock$Hour", 119, ⟨"HourClock$Elements", "goal", "()I"⟩, "HourClock") (List.mem_of_getElem? (i := 13) rfl)
theorem zn_14 {g : zG} {U : State} (h : zK zNF zNM g U) : va_Nw (.methodLinkNest "HourClock$Hour" 99 ⟨"HourClock$Elements", "has", "(I)Z"⟩ "HourClock") U := h.2.2 ("HourClock$Hour", 99, ⟨"HourClock$Elements", "has", "(I)Z"⟩, "HourClock") (List.mem_of_getElem? (i := 14) rfl)
theorem zn_15 {g : zG} {U : State} (h : zK zNF zNM g U) : va_Nw (.methodLinkNest "HourClock$Hour" 137 ⟨"HourClock$Log", "add", "(III)V"⟩ "HourClock") U := h.2.2 ("HourClock$Hour", 137, ⟨"HourClock$Log", "add", "(III)V"⟩, "HourClock") (List.mem_of_getElem? (i := 15) rfl)
theorem zn_16 {g : zG} {U : State} (h : zK zNF zNM g U) : va_Nw (.methodLinkNest "HourClock$Hour" 112 ⟨"HourClock$Elements", "firstThatWaits", "()I"⟩ "HourClock") U := h.2.2 ("HourClock$Hour", 112, ⟨"HourClock$Elements", "firstThatWaits", "()I"⟩, "HourClock") (List.mem_of_getElem? (i := 16) rfl)
theorem zn_17 {g : zG} {U : State} (h : zK zNF zNM g U) : va_Nw (.methodLinkNest "HourClock$Hour" 116 ⟨"HourClock$Elements", "isFixed", "(I)Z"⟩ "HourClock") U := h.2.2 ("HourClock$Hour", 116, ⟨"HourClock$Elements", "isFixed", "(I)Z"⟩, "HourClock") (List.mem_of_getElem? (i := 17) rfl)
theorem zn_18 {g : zG} {U : State} (h : zK zNF zNM g U) : va_Nw (.methodLinkNest "HourClock$Hour" 141 ⟨"HourClock$Fillers", "chooseFor", "(I)I"⟩ "HourClock") U := h.2.2 ("HourClock$Hour", 141, ⟨"HourClock$Fillers", "chooseFor", "(I)I"⟩, "HourClock") (List.mem_of_getElem? (i := 18) rfl)
theorem zn_19 {g : zG} {U : State} (h : zK zNF zNM g U) : va_Nw (.methodLinkNest "HourClock$Fillers" 38 ⟨"HourClock$SetWalk", "begin", "(LHourClock$Fillers;)I"⟩ "HourClock") U := h.2.2 ("HourClock$Fillers", 38, ⟨"HourClock$SetWalk", "begin", "(LHourClock$Fillers;)I"⟩, "HourClock") (List.mem_of_getElem? (i := 19) rfl)
theorem zn_20 {g : zG} {U : State} (h : zK zNF zNM g U) : va_Nw (.methodLinkNest "HourClock$Fillers" 42 ⟨"HourClock$SetWalk", "go", "(I)V"⟩ "HourClock") U := h.2.2 ("HourClock$Fillers", 42, ⟨"HourClock$SetWalk", "go", "(I)V"⟩, "HourClock") (List.mem_of_getElem? (i := 20) rfl)
theorem zn_21 {g : zG} {U : State} (h : zK zNF zNM g U) : va_Nw (.methodLinkNest "HourClock$Hour" 107 ⟨"HourClock$Fillers", "has", "(I)Z"⟩ "HourClock") U := h.2.2 ("HourClock$Hour", 107, ⟨"HourClock$Fillers", "has", "(I)Z"⟩, "HourClock") (List.mem_of_getElem? (i := 21) rfl)
theorem zn_22 {g : zG} {U : State} (h : zK zNF zNM g U) : va_Nw (.methodLinkNest "HourClock$Hour" 160 ⟨"HourClock$Elements", "lateness", "(I)I"⟩ "HourClock") U := h.2.2 ("HourClock$Hour", 160, ⟨"HourClock$Elements", "lateness", "(I)I"⟩, "HourClock") (List.mem_of_getElem? (i := 22) rfl)
theorem zn_23 {g : zG} {U : State} (h : zK zNF zNM g U) : va_Nw (.methodLinkNest "HourClock" 82 ⟨"HourClock$Elements", "has", "(I)Z"⟩ "HourClock") U := h.2.2 ("HourClock", 82, ⟨"HourClock$Elements", "has", "(I)Z"⟩, "HourClock") (List.mem_of_getElem? (i := 23) rfl)
theorem zn_24 {g : zG} {U : State} (h : zK zNF zNM g U) : va_Nw (.methodLinkNest "HourClock" 111 ⟨"HourClock$Hour", "dropElement", "(I)V"⟩ "HourClock") U := h.2.2 ("HourClock", 111, ⟨"HourClock$Hour", "dropElement", "(I)V"⟩, "HourClock") (List.mem_of_getElem? (i := 24) rfl)
theorem zn_25 {g : zG} {U : State} (h : zK zNF zNM g U) : va_Nw (.methodLinkNest "HourClock" 106 ⟨"HourClock$Elements", "waits", "(I)Z"⟩ "HourClock") U := h.2.2 ("HourClock", 106, ⟨"HourClock$Elements", "waits", "(I)Z"⟩, "HourClock") (List.mem_of_getElem? (i := 25) rfl)
theorem zn_26 {g : zG} {U : State} (h : zK zNF zNM g U) : va_Nw (.methodLinkNest "HourClock" 167 ⟨"HourClock$Elements", "is", "(II)Z"⟩ "HourClock") U := h.2.2 ("HourClock", 167, ⟨"HourClock$Elements", "is", "(II)Z"⟩, "HourClock") (List.mem_of_getElem? (i := 26) rfl)
theorem zn_27 {g : zG} {U : State} (h : zK zNF zNM g U) : va_Nw (.methodLinkNest "HourClock" 114 ⟨"HourClock$Elements", "countThatAre", "(I)I"⟩ "HourClock") U := h.2.2 ("HourClock", 114, ⟨"HourClock$Elements", "countThatAre", "(I)I"⟩, "HourClock") (List.mem_of_getElem? (i := 27) rfl)
theorem zn_28 {g : zG} {U : State} (h : zK zNF zNM g U) : va_Nw (.methodLinkNest "HourClock" 192 ⟨"HourClock$Text", "readInto", "(LHourClock$Hour;)I"⟩ "HourClock") U := h.2.2 ("HourClock", 192, ⟨"HourClock$Text", "readInto", "(LHourClock$Hour;)I"⟩, "HourClock") (List.mem_of_getElem? (i := 28) rfl)
theorem zn_29 {g : zG} {U : State} (h : zK zNF zNM g U) : va_Nw (.methodLinkNest "HourClock$Text" 25 ⟨"HourClock$Hour", "becomeEmpty", "()V"⟩ "HourClock") U := h.2.2 ("HourClock$Text", 25, ⟨"HourClock$Hour", "becomeEmpty", "()V"⟩, "HourClock") (List.mem_of_getElem? (i := 29) rfl)
theorem zn_30 {g : zG} {U : State} (h : zK zNF zNM g U) : va_Nw (.methodLinkNest "HourClock$Hour" 68 ⟨"HourClock$Elements", "allWait", "()V"⟩ "HourClock") U := h.2.2 ("HourClock$Hour", 68, ⟨"HourClock$Elements", "allWait", "()V"⟩, "HourClock") (List.mem_of_getElem? (i := 30) rfl)
theorem zn_31 {g : zG} {U : State} (h : zK zNF zNM g U) : va_Nw (.methodLinkNest "HourClock$Hour" 71 ⟨"HourClock$Fillers", "allWait", "()V"⟩ "HourClock") U := h.2.2 ("HourClock$Hour", 71, ⟨"HourClock$Fillers", "allWait", "()V"⟩, "HourClock") (List.mem_of_getElem? (i := 31) rfl)
theorem zn_32 {g : zG} {U : State} (h : zK zNF zNM g U) : va_Nw (.methodLinkNest "HourClock$Text" 82 ⟨"HourClock$Elements", "add", "(III)V"⟩ "HourClock") U := h.2.2 ("HourClock$Text", 82, ⟨"HourClock$Elements", "add", "(III)V"⟩, "HourClock") (List.mem_of_getElem? (i := 32) rfl)
theorem zn_33 {g : zG} {U : State} (h : zK zNF zNM g U) : va_Nw (.methodLinkNest "HourClock$Text" 86 ⟨"HourClock$Fillers", "add", "(I)V"⟩ "HourClock") U := h.2.2 ("HourClock$Text", 86, ⟨"HourClock$Fillers", "add", "(I)V"⟩, "HourClock") (List.mem_of_getElem? (i := 33) rfl)
theorem zn_34 {g : zG} {U : State} (h : zK zNF zNM g U) : va_Nw (.methodLinkNest "HourClock" 145 ⟨"HourClock$Hour", "tell", "(I)I"⟩ "HourClock") U := h.2.2 ("HourClock", 145, ⟨"HourClock$Hour", "tell", "(I)I"⟩, "HourClock") (List.mem_of_getElem? (i := 34) rfl)
theorem zn_35 {g : zG} {U : State} (h : zK zNF zNM g U) : va_Nw (.methodLinkNest "HourClock$Hour" 177 ⟨"HourClock$Elements", "countThatAre", "(I)I"⟩ "HourClock") U := h.2.2 ("HourClock$Hour", 177, ⟨"HourClock$Elements", "countThatAre", "(I)I"⟩, "HourClock") (List.mem_of_getElem? (i := 35) rfl)
theorem zn_36 {g : zG} {U : State} (h : zK zNF zNM g U) : va_Nw (.methodLinkNest "HourClock$Hour" 180 ⟨"HourClock$Fillers", "countThatWait", "()I"⟩ "HourClock") U := h.2.2 ("HourClock$Hour", 180, ⟨"HourClock$Fillers", "countThatWait", "()I"⟩, "HourClock") (List.mem_of_getElem? (i := 36) rfl)
theorem zn_37 {g : zG} {U : State} (h : zK zNF zNM g U) : va_Nw (.methodLinkNest "HourClock" 137 ⟨"HourClock$Elements", "tell", "(II)I"⟩ "HourClock") U := h.2.2 ("HourClock", 137, ⟨"HourClock$Elements", "tell", "(II)I"⟩, "HourClock") (List.mem_of_getElem? (i := 37) rfl)
theorem zn_38 {g : zG} {U : State} (h : zK zNF zNM g U) : va_Nw (.methodLinkNest "HourClock" 157 ⟨"HourClock$Elements", "latestBegin", "(I)I"⟩ "HourClock") U := h.2.2 ("HourClock", 157, ⟨"HourClock$Elements", "latestBegin", "(I)I"⟩, "HourClock") (List.mem_of_getElem? (i := 38) rfl)
theorem zn_39 {g : zG} {U : State} (h : zK zNF zNM g U) : va_Nw (.methodLinkNest "HourClock" 164 ⟨"HourClock$Elements", "begunAt", "(I)I"⟩ "HourClock") U := h.2.2 ("HourClock", 164, ⟨"HourClock$Elements", "begunAt", "(I)I"⟩, "HourClock") (List.mem_of_getElem? (i := 39) rfl)
theorem zn_40 {g : zG} {U : State} (h : zK zNF zNM g U) : va_Nw (.methodLinkNest "HourClock" 144 ⟨"HourClock$Fillers", "tell", "(II)I"⟩ "HourClock") U := h.2.2 ("HourClock", 144, ⟨"HourClock$Fillers", "tell", "(II)I"⟩, "HourClock") (List.mem_of_getElem? (i := 40) rfl)
theorem zn_41 {g : zG} {U : State} (h : zK zNF zNM g U) : va_Nw (.methodLinkNest "HourClock" 156 ⟨"HourClock$Log", "tell", "(II)I"⟩ "HourClock") U := h.2.2 ("HourClock", 156, ⟨"HourClock$Log", "tell", "(II)I"⟩, "HourClock") (List.mem_of_getElem? (i := 41) rfl)
theorem zn_42 {g : zG} {U : State} (h : zK zNF zNM g U) : va_Nw (.methodLinkNest "HourClock" 66 ⟨"HourClock$Elements", "add", "(III)V"⟩ "HourClock") U := h.2.2 ("HourClock", 66, ⟨"HourClock$Elements", "add", "(III)V"⟩, "HourClock") (List.mem_of_getElem? (i := 42) rfl)
theorem zn_43 {g : zG} {U : State} (h : zK zNF zNM g U) : va_Nw (.methodLinkNest "HourClock" 79 ⟨"HourClock$Fillers", "add", "(I)V"⟩ "HourClock") U := h.2.2 ("HourClock", 79, ⟨"HourClock$Fillers", "add", "(I)V"⟩, "HourClock") (List.mem_of_getElem? (i := 43) rfl)
theorem zn_44 {g : zG} {U : State} (h : zK zNF zNM g U) : va_Nw (.methodLinkNest "HourClock" 96 ⟨"HourClock$Hour", "canHaveLength", "(II)Z"⟩ "HourClock") U := h.2.2 ("HourClock", 96, ⟨"HourClock$Hour", "canHaveLength", "(II)Z"⟩, "HourClock") (List.mem_of_getElem? (i := 44) rfl)
theorem zn_45 {g : zG} {U : State} (h : zK zNF zNM g U) : va_Nw (.methodLinkNest "HourClock$Hour" 167 ⟨"HourClock$Elements", "is", "(II)Z"⟩ "HourClock") U := h.2.2 ("HourClock$Hour", 167, ⟨"HourClock$Elements", "is", "(II)Z"⟩, "HourClock") (List.mem_of_getElem? (i := 45) rfl)
theorem zn_46 {g : zG} {U : State} (h : zK zNF zNM g U) : va_Nw (.methodLinkNest "HourClock$Hour" 171 ⟨"HourClock$Elements", "begunAt", "(I)I"⟩ "HourClock") U := h.2.2 ("HourClock$Hour", 171, ⟨"HourClock$Elements", "begunAt", "(I)I"⟩, "HourClock") (List.mem_of_getElem? (i := 46) rfl)
theorem zn_47 {g : zG} {U : State} (h : zK zNF zNM g U) : va_Nw (.methodLinkNest "HourClock$Hour" 174 ⟨"HourClock$Elements", "waits", "(I)Z"⟩ "HourClock") U := h.2.2 ("HourClock$Hour", 174, ⟨"HourClock$Elements", "waits", "(I)Z"⟩, "HourClock") (List.mem_of_getElem? (i := 47) rfl)
theorem zn_48 {g : zG} {U : State} (h : zK zNF zNM g U) : va_Nw (.methodLinkNest "HourClock" 102 ⟨"HourClock$Hour", "giveLength", "(II)V"⟩ "HourClock") U := h.2.2 ("HourClock", 102, ⟨"HourClock$Hour", "giveLength", "(II)V"⟩, "HourClock") (List.mem_of_getElem? (i := 48) rfl)
theorem zn_49 {g : zG} {U : State} (h : zK zNF zNM g U) : va_Nw (.methodLinkNest "HourClock" 129 ⟨"HourClock$Hour", "beginAnew", "()V"⟩ "HourClock") U := h.2.2 ("HourClock", 129, ⟨"HourClock$Hour", "beginAnew", "()V"⟩, "HourClock") (List.mem_of_getElem? (i := 49) rfl)
theorem zn_50 {g : zG} {U : State} (h : zK zNF zNM g U) : va_Nw (.methodLinkNest "HourClock" 141 ⟨"HourClock$Fillers", "has", "(I)Z"⟩ "HourClock") U := h.2.2 ("HourClock", 141, ⟨"HourClock$Fillers", "has", "(I)Z"⟩, "HourClock") (List.mem_of_getElem? (i := 50) rfl)
theorem zn_51 {g : zG} {U : State} (h : zK zNF zNM g U) : va_Nw (.methodLinkNest "HourClock" 151 ⟨"HourClock$Log", "has", "(I)Z"⟩ "HourClock") U := h.2.2 ("HourClock", 151, ⟨"HourClock$Log", "has", "(I)Z"⟩, "HourClock") (List.mem_of_getElem? (i := 51) rfl)
theorem zn_52 {g : zG} {U : State} (h : zK zNF zNM g U) : va_Nw (.methodLinkNest "HourClock" 175 ⟨"HourClock$Fillers", "chooseFor", "(I)I"⟩ "HourClock") U := h.2.2 ("HourClock", 175, ⟨"HourClock$Fillers", "chooseFor", "(I)I"⟩, "HourClock") (List.mem_of_getElem? (i := 52) rfl)
theorem zn_53 {g : zG} {U : State} (h : zK zNF zNM g U) : va_Nw (.methodLinkNest "HourClock" 180 ⟨"HourClock$Fillers", "leastSumAbove", "(I)I"⟩ "HourClock") U := h.2.2 ("HourClock", 180, ⟨"HourClock$Fillers", "leastSumAbove", "(I)I"⟩, "HourClock") (List.mem_of_getElem? (i := 53) rfl)
theorem zn_54 {g : zG} {U : State} (h : zK zNF zNM g U) : va_Nw (.methodLinkNest "HourClock" 189 ⟨"HourClock$Text", "put", "(I)V"⟩ "HourClock") U := h.2.2 ("HourClock", 189, ⟨"HourClock$Text", "put", "(I)V"⟩, "HourClock") (List.mem_of_getElem? (i := 54) rfl)
theorem ziX0 : ∀ w ∈ wsX00, w ∈ zW := by
  have h : wsX00 = [u_lay RX0 TX0 0, u_lay RX0 TX0 1, u_lay RX0 TX0 2, u_lay RX0 TX0 3, u_lay RX0 TX0 4, u_lay RX0 TX0 5] := rfl
  rw [h]
  exact List.forall_mem_cons.mpr ⟨zm1_51, List.forall_mem_cons.mpr ⟨zm1_53, List.forall_mem_cons.mpr ⟨zm1_55, List.forall_mem_cons.mpr ⟨zm1_57, List.forall_mem_cons.mpr ⟨zm1_59, List.forall_mem_cons.mpr ⟨zm1_61, fun _ h => absurd h List.not_mem_nil⟩⟩⟩⟩⟩⟩
theorem ziX1 : ∀ w ∈ wsX10, w ∈ zW := by
  have h : wsX10 = [u_lay RX1 TX1 0, u_lay RX1 TX1 1, u_lay RX1 TX1 2, u_lay RX1 TX1 3, u_lay RX1 TX1 4] := rfl
  rw [h]
  exact List.forall_mem_cons.mpr ⟨zm1_113, List.forall_mem_cons.mpr ⟨zm1_115, List.forall_mem_cons.mpr ⟨zm1_117, List.forall_mem_cons.mpr ⟨zm1_119, List.forall_mem_cons.mpr ⟨zm1_121, fun _ h => absurd h List.not_mem_nil⟩⟩⟩⟩⟩
theorem ziX2 : ∀ w ∈ wsX20, w ∈ zW := by
  have h : wsX20 = [u_lay RX2 TX2 0, u_lay RX2 TX2 1, u_lay RX2 TX2 2, u_lay RX2 TX2 3, u_lay RX2 TX2 4, u_lay RX2 TX2 5, u_lay RX2 TX2 6, u_lay RX2 TX2 7, u_lay RX2 TX2 8, u_lay RX2 TX2 9, u_lay RX2 TX2 10] := rfl
  rw [h]
  exact List.forall_mem_cons.mpr ⟨zm1_165, List.forall_mem_cons.mpr ⟨zm1_167, List.forall_mem_cons.mpr ⟨zm1_169, List.forall_mem_cons.mpr ⟨zm1_171, List.forall_mem_cons.mpr ⟨zm1_173, List.forall_mem_cons.mpr ⟨zm1_175, List.forall_mem_cons.mpr ⟨zm1_177, List.forall_mem_cons.mpr ⟨zm1_179, List.forall_mem_cons.mpr ⟨zm1_181, List.forall_mem_cons.mpr ⟨zm1_183, List.forall_mem_cons.mpr ⟨zm1_185, fun _ h => absurd h List.not_mem_nil⟩⟩⟩⟩⟩⟩⟩⟩⟩⟩⟩
theorem ziX3 : ∀ w ∈ wsX30, w ∈ zW := by
  have h : wsX30 = [u_lay RX3 TX3 0, u_lay RX3 TX3 1, u_lay RX3 TX3 2, u_lay RX3 TX3 3] := rfl
  rw [h]
  exact List.forall_mem_cons.mpr ⟨zm1_136, List.forall_mem_cons.mpr ⟨zm1_138, List.forall_mem_cons.mpr ⟨zm1_140, List.forall_mem_cons.mpr ⟨zm1_142, fun _ h => absurd h List.not_mem_nil⟩⟩⟩⟩
theorem ziX4 : ∀ w ∈ wsX40, w ∈ zW := by
  have h : wsX40 = [u_lay RX4 TX4 0, u_lay RX4 TX4 1, u_lay RX4 TX4 2, u_lay RX4 TX4 3, u_lay RX4 TX4 4, u_lay RX4 TX4 5] := rfl
  rw [h]
  exact List.forall_mem_cons.mpr ⟨zm1_86, List.forall_mem_cons.mpr ⟨zm1_88, List.forall_mem_cons.mpr ⟨zm1_90, List.forall_mem_cons.mpr ⟨zm1_92, List.forall_mem_cons.mpr ⟨zm1_94, List.forall_mem_cons.mpr ⟨zm1_96, fun _ h => absurd h List.not_mem_nil⟩⟩⟩⟩⟩⟩
theorem ziX5 : ∀ w ∈ wsX50, w ∈ zW := by
  have h : wsX50 = [u_lay RX5 TX5 0, u_lay RX5 TX5 1, u_lay RX5 TX5 2, u_lay RX5 TX5 3] := rfl
  rw [h]
  exact List.forall_mem_cons.mpr ⟨zm1_200, List.forall_mem_cons.mpr ⟨zm1_202, List.forall_mem_cons.mpr ⟨zm1_204, List.forall_mem_cons.mpr ⟨zm1_206, fun _ h => absurd h List.not_mem_nil⟩⟩⟩⟩
theorem ziX6 : ∀ w ∈ wsX60, w ∈ zW := by
  have h : wsX60 = [u_lay RX6 TX6 0, u_lay RX6 TX6 1, u_lay RX6 TX6 2, u_lay RX6 TX6 3, u_lay RX6 TX6 4] := rfl
  rw [h]
  exact List.forall_mem_cons.mpr ⟨zm1_214, List.forall_mem_cons.mpr ⟨zm1_216, List.forall_mem_cons.mpr ⟨zm1_218, List.forall_mem_cons.mpr ⟨zm1_220, List.forall_mem_cons.mpr ⟨zm1_222, fun _ h => absurd h List.not_mem_nil⟩⟩⟩⟩⟩
theorem ziX7 : ∀ w ∈ wsX70, w ∈ zW := by
  have h : wsX70 = [u_lay RX7 TX7 0, u_lay RX7 TX7 1, u_lay RX7 TX7 2, u_lay RX7 TX7 3, u_lay RX7 TX7 4, u_lay RX7 TX7 5, u_lay RX7 TX7 6, u_lay RX7 TX7 7, u_lay RX7 TX7 8, u_lay RX7 TX7 9, u_lay RX7 TX7 10] := rfl
  rw [h]
  exact List.forall_mem_cons.mpr ⟨zm4_82, List.forall_mem_cons.mpr ⟨zm4_84, List.forall_mem_cons.mpr ⟨zm4_86, List.forall_mem_cons.mpr ⟨zm4_88, List.forall_mem_cons.mpr ⟨zm4_90, List.forall_mem_cons.mpr ⟨zm4_92, List.forall_mem_cons.mpr ⟨zm4_94, List.forall_mem_cons.mpr ⟨zm4_96, List.forall_mem_cons.mpr ⟨zm4_98, List.forall_mem_cons.mpr ⟨zm4_100, List.forall_mem_cons.mpr ⟨zm4_102, fun _ h => absurd h List.not_mem_nil⟩⟩⟩⟩⟩⟩⟩⟩⟩⟩⟩
end
section
theorem zz_probe : True := trivial
end
