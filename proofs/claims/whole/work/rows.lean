section
-- ===== PART A: goes FIRST, ahead of the names: the tables' words, and 'selects' of the private methods out of them =====
/-- a private method of a class that the tables say can be made, by its rows of tables_1 -/
def lw_okq (q : MethodName × Nat) : Prop := (q.1.cls ≠ "java/lang/invoke/MethodHandle" ∧ q.1.cls ≠ "java/lang/invoke/VarHandle") ∧ Cond.instantiable q.1.cls q.2 ∈ tables_1 ∧ Cond.privateMethod q.1 ∈ tables_1 ∧ Cond.instanceMethod q.1 ∈ tables_1
theorem lw_p0 : lw_okq (⟨"FlowEquations$Equation", "readLine", "([II)Z"⟩, 11) := ⟨⟨by decide +kernel, by decide +kernel⟩, List.mem_of_getElem? (i := 31) (by decide +kernel), List.mem_of_getElem? (i := 261) (by decide +kernel), List.mem_of_getElem? (i := 262) (by decide +kernel)⟩
theorem lw_p1 : lw_okq (⟨"FlowEquations$Equation", "readTerm", "(IIZ)I"⟩, 11) := ⟨⟨by decide +kernel, by decide +kernel⟩, List.mem_of_getElem? (i := 31) (by decide +kernel), List.mem_of_getElem? (i := 271) (by decide +kernel), List.mem_of_getElem? (i := 272) (by decide +kernel)⟩
theorem lw_p2 : lw_okq (⟨"FlowEquations$Equation", "mayBeginTerm", "(II)Z"⟩, 11) := ⟨⟨by decide +kernel, by decide +kernel⟩, List.mem_of_getElem? (i := 31) (by decide +kernel), List.mem_of_getElem? (i := 275) (by decide +kernel), List.mem_of_getElem? (i := 276) (by decide +kernel)⟩
theorem lw_p3 : lw_okq (⟨"FlowEquations$Equation", "readName", "(II)I"⟩, 11) := ⟨⟨by decide +kernel, by decide +kernel⟩, List.mem_of_getElem? (i := 31) (by decide +kernel), List.mem_of_getElem? (i := 286) (by decide +kernel), List.mem_of_getElem? (i := 287) (by decide +kernel)⟩
theorem lw_p4 : lw_okq (⟨"FlowEquations$Equation", "readParts", "(III)I"⟩, 11) := ⟨⟨by decide +kernel, by decide +kernel⟩, List.mem_of_getElem? (i := 31) (by decide +kernel), List.mem_of_getElem? (i := 290) (by decide +kernel), List.mem_of_getElem? (i := 291) (by decide +kernel)⟩
theorem lw_p5 : lw_okq (⟨"FlowEquations$Program", "exchange", "(ILFlowEquations$Equation;)LFlowEquations$Equation;"⟩, 2) := ⟨⟨by decide +kernel, by decide +kernel⟩, List.mem_of_getElem? (i := 24) (by decide +kernel), List.mem_of_getElem? (i := 294) (by decide +kernel), List.mem_of_getElem? (i := 295) (by decide +kernel)⟩
theorem lw_p6 : lw_okq (⟨"FlowEquations", "becomeUnready", "()V"⟩, 8) := ⟨⟨by decide +kernel, by decide +kernel⟩, List.mem_of_getElem? (i := 16) (by decide +kernel), List.mem_of_getElem? (i := 298) (by decide +kernel), List.mem_of_getElem? (i := 299) (by decide +kernel)⟩
theorem lw_p7 : lw_okq (⟨"FlowEquations$Run", "restart", "()V"⟩, 10) := ⟨⟨by decide +kernel, by decide +kernel⟩, List.mem_of_getElem? (i := 111) (by decide +kernel), List.mem_of_getElem? (i := 302) (by decide +kernel), List.mem_of_getElem? (i := 303) (by decide +kernel)⟩
theorem lw_p8 : lw_okq (⟨"FlowEquations$Program", "defines", "(I)Z"⟩, 2) := ⟨⟨by decide +kernel, by decide +kernel⟩, List.mem_of_getElem? (i := 24) (by decide +kernel), List.mem_of_getElem? (i := 311) (by decide +kernel), List.mem_of_getElem? (i := 312) (by decide +kernel)⟩
theorem lw_p9 : lw_okq (⟨"FlowEquations$Checker", "firstFault", "()I"⟩, 2) := ⟨⟨by decide +kernel, by decide +kernel⟩, List.mem_of_getElem? (i := 97) (by decide +kernel), List.mem_of_getElem? (i := 328) (by decide +kernel), List.mem_of_getElem? (i := 329) (by decide +kernel)⟩
theorem lw_p10 : lw_okq (⟨"FlowEquations$Checker", "leastMissing", "()I"⟩, 2) := ⟨⟨by decide +kernel, by decide +kernel⟩, List.mem_of_getElem? (i := 97) (by decide +kernel), List.mem_of_getElem? (i := 332) (by decide +kernel), List.mem_of_getElem? (i := 333) (by decide +kernel)⟩
theorem lw_p11 : lw_okq (⟨"FlowEquations$Equation", "allNames", "()I"⟩, 11) := ⟨⟨by decide +kernel, by decide +kernel⟩, List.mem_of_getElem? (i := 31) (by decide +kernel), List.mem_of_getElem? (i := 337) (by decide +kernel), List.mem_of_getElem? (i := 338) (by decide +kernel)⟩
theorem lw_p12 : lw_okq (⟨"FlowEquations$Program", "clockSet", "(I)I"⟩, 2) := ⟨⟨by decide +kernel, by decide +kernel⟩, List.mem_of_getElem? (i := 24) (by decide +kernel), List.mem_of_getElem? (i := 341) (by decide +kernel), List.mem_of_getElem? (i := 342) (by decide +kernel)⟩
theorem lw_p13 : lw_okq (⟨"FlowEquations$Checker", "leastOnClockRing", "()I"⟩, 2) := ⟨⟨by decide +kernel, by decide +kernel⟩, List.mem_of_getElem? (i := 97) (by decide +kernel), List.mem_of_getElem? (i := 351) (by decide +kernel), List.mem_of_getElem? (i := 352) (by decide +kernel)⟩
theorem lw_p14 : lw_okq (⟨"FlowEquations$Checker", "clocksLeadBackTo", "(I)Z"⟩, 2) := ⟨⟨by decide +kernel, by decide +kernel⟩, List.mem_of_getElem? (i := 97) (by decide +kernel), List.mem_of_getElem? (i := 355) (by decide +kernel), List.mem_of_getElem? (i := 356) (by decide +kernel)⟩
theorem lw_p15 : lw_okq (⟨"FlowEquations$Checker", "leastUnfit", "()I"⟩, 2) := ⟨⟨by decide +kernel, by decide +kernel⟩, List.mem_of_getElem? (i := 97) (by decide +kernel), List.mem_of_getElem? (i := 359) (by decide +kernel), List.mem_of_getElem? (i := 360) (by decide +kernel)⟩
def lw_privs_1 : List (MethodName × Nat) := [(⟨"FlowEquations$Equation", "readLine", "([II)Z"⟩, 11), (⟨"FlowEquations$Equation", "readTerm", "(IIZ)I"⟩, 11), (⟨"FlowEquations$Equation", "mayBeginTerm", "(II)Z"⟩, 11), (⟨"FlowEquations$Equation", "readName", "(II)I"⟩, 11), (⟨"FlowEquations$Equation", "readParts", "(III)I"⟩, 11), (⟨"FlowEquations$Program", "exchange", "(ILFlowEquations$Equation;)LFlowEquations$Equation;"⟩, 2), (⟨"FlowEquations", "becomeUnready", "()V"⟩, 8), (⟨"FlowEquations$Run", "restart", "()V"⟩, 10), (⟨"FlowEquations$Program", "defines", "(I)Z"⟩, 2), (⟨"FlowEquations$Checker", "firstFault", "()I"⟩, 2), (⟨"FlowEquations$Checker", "leastMissing", "()I"⟩, 2), (⟨"FlowEquations$Equation", "allNames", "()I"⟩, 11), (⟨"FlowEquations$Program", "clockSet", "(I)I"⟩, 2), (⟨"FlowEquations$Checker", "leastOnClockRing", "()I"⟩, 2), (⟨"FlowEquations$Checker", "clocksLeadBackTo", "(I)Z"⟩, 2), (⟨"FlowEquations$Checker", "leastUnfit", "()I"⟩, 2)]
theorem lw_r1 : ∀ q ∈ lw_privs_1, lw_okq q := List.forall_mem_cons.mpr ⟨lw_p0, List.forall_mem_cons.mpr ⟨lw_p1, List.forall_mem_cons.mpr ⟨lw_p2, List.forall_mem_cons.mpr ⟨lw_p3, List.forall_mem_cons.mpr ⟨lw_p4, List.forall_mem_cons.mpr ⟨lw_p5, List.forall_mem_cons.mpr ⟨lw_p6, List.forall_mem_cons.mpr ⟨lw_p7, List.forall_mem_cons.mpr ⟨lw_p8, List.forall_mem_cons.mpr ⟨lw_p9, List.forall_mem_cons.mpr ⟨lw_p10, List.forall_mem_cons.mpr ⟨lw_p11, List.forall_mem_cons.mpr ⟨lw_p12, List.forall_mem_cons.mpr ⟨lw_p13, List.forall_mem_cons.mpr ⟨lw_p14, List.forall_mem_cons.mpr ⟨lw_p15, fun _ h => absurd h List.not_mem_nil⟩⟩⟩⟩⟩⟩⟩⟩⟩⟩⟩⟩⟩⟩⟩⟩
theorem lw_p16 : lw_okq (⟨"FlowEquations$Equation", "fits", "(I[I)Z"⟩, 11) := ⟨⟨by decide +kernel, by decide +kernel⟩, List.mem_of_getElem? (i := 31) (by decide +kernel), List.mem_of_getElem? (i := 363) (by decide +kernel), List.mem_of_getElem? (i := 364) (by decide +kernel)⟩
theorem lw_p17 : lw_okq (⟨"FlowEquations$Equation", "fitsAt", "(I[I)Z"⟩, 11) := ⟨⟨by decide +kernel, by decide +kernel⟩, List.mem_of_getElem? (i := 31) (by decide +kernel), List.mem_of_getElem? (i := 367) (by decide +kernel), List.mem_of_getElem? (i := 368) (by decide +kernel)⟩
theorem lw_p18 : lw_okq (⟨"FlowEquations$Equation", "handClockDown", "(I[I)V"⟩, 11) := ⟨⟨by decide +kernel, by decide +kernel⟩, List.mem_of_getElem? (i := 31) (by decide +kernel), List.mem_of_getElem? (i := 372) (by decide +kernel), List.mem_of_getElem? (i := 373) (by decide +kernel)⟩
theorem lw_p19 : lw_okq (⟨"FlowEquations$Checker", "leastNeedingItself", "()I"⟩, 2) := ⟨⟨by decide +kernel, by decide +kernel⟩, List.mem_of_getElem? (i := 97) (by decide +kernel), List.mem_of_getElem? (i := 376) (by decide +kernel), List.mem_of_getElem? (i := 377) (by decide +kernel)⟩
theorem lw_p20 : lw_okq (⟨"FlowEquations$Checker", "gatherNeeds", "()V"⟩, 2) := ⟨⟨by decide +kernel, by decide +kernel⟩, List.mem_of_getElem? (i := 97) (by decide +kernel), List.mem_of_getElem? (i := 380) (by decide +kernel), List.mem_of_getElem? (i := 381) (by decide +kernel)⟩
theorem lw_p21 : lw_okq (⟨"FlowEquations$Equation", "namesOutsideP", "()I"⟩, 11) := ⟨⟨by decide +kernel, by decide +kernel⟩, List.mem_of_getElem? (i := 31) (by decide +kernel), List.mem_of_getElem? (i := 384) (by decide +kernel), List.mem_of_getElem? (i := 385) (by decide +kernel)⟩
theorem lw_p22 : lw_okq (⟨"FlowEquations$Run", "arrange", "([I)V"⟩, 10) := ⟨⟨by decide +kernel, by decide +kernel⟩, List.mem_of_getElem? (i := 111) (by decide +kernel), List.mem_of_getElem? (i := 388) (by decide +kernel), List.mem_of_getElem? (i := 389) (by decide +kernel)⟩
theorem lw_p23 : lw_okq (⟨"FlowEquations$Program", "definedCount", "()I"⟩, 2) := ⟨⟨by decide +kernel, by decide +kernel⟩, List.mem_of_getElem? (i := 24) (by decide +kernel), List.mem_of_getElem? (i := 399) (by decide +kernel), List.mem_of_getElem? (i := 400) (by decide +kernel)⟩
theorem lw_p24 : lw_okq (⟨"FlowEquations$Run", "passInstant", "()V"⟩, 10) := ⟨⟨by decide +kernel, by decide +kernel⟩, List.mem_of_getElem? (i := 111) (by decide +kernel), List.mem_of_getElem? (i := 408) (by decide +kernel), List.mem_of_getElem? (i := 409) (by decide +kernel)⟩
theorem lw_p25 : lw_okq (⟨"FlowEquations$Run", "settle", "(I)V"⟩, 10) := ⟨⟨by decide +kernel, by decide +kernel⟩, List.mem_of_getElem? (i := 111) (by decide +kernel), List.mem_of_getElem? (i := 412) (by decide +kernel), List.mem_of_getElem? (i := 413) (by decide +kernel)⟩
theorem lw_p26 : lw_okq (⟨"FlowEquations$Run", "isActive", "(I)Z"⟩, 10) := ⟨⟨by decide +kernel, by decide +kernel⟩, List.mem_of_getElem? (i := 111) (by decide +kernel), List.mem_of_getElem? (i := 416) (by decide +kernel), List.mem_of_getElem? (i := 417) (by decide +kernel)⟩
theorem lw_p27 : lw_okq (⟨"FlowEquations$Run", "evaluate", "(LFlowEquations$Equation;)V"⟩, 10) := ⟨⟨by decide +kernel, by decide +kernel⟩, List.mem_of_getElem? (i := 111) (by decide +kernel), List.mem_of_getElem? (i := 420) (by decide +kernel), List.mem_of_getElem? (i := 421) (by decide +kernel)⟩
theorem lw_p28 : lw_okq (⟨"FlowEquations$Run", "valueAt", "(LFlowEquations$Equation;I)I"⟩, 10) := ⟨⟨by decide +kernel, by decide +kernel⟩, List.mem_of_getElem? (i := 111) (by decide +kernel), List.mem_of_getElem? (i := 424) (by decide +kernel), List.mem_of_getElem? (i := 425) (by decide +kernel)⟩
theorem lw_p29 : lw_okq (⟨"FlowEquations$Run", "operatorValue", "(LFlowEquations$Equation;I)I"⟩, 10) := ⟨⟨by decide +kernel, by decide +kernel⟩, List.mem_of_getElem? (i := 111) (by decide +kernel), List.mem_of_getElem? (i := 431) (by decide +kernel), List.mem_of_getElem? (i := 432) (by decide +kernel)⟩
theorem lw_p30 : lw_okq (⟨"FlowEquations$Equation", "partValue", "(II)I"⟩, 11) := ⟨⟨by decide +kernel, by decide +kernel⟩, List.mem_of_getElem? (i := 31) (by decide +kernel), List.mem_of_getElem? (i := 435) (by decide +kernel), List.mem_of_getElem? (i := 436) (by decide +kernel)⟩
theorem lw_p31 : lw_okq (⟨"FlowEquations$Run", "hasBegun", "(I)Z"⟩, 10) := ⟨⟨by decide +kernel, by decide +kernel⟩, List.mem_of_getElem? (i := 111) (by decide +kernel), List.mem_of_getElem? (i := 439) (by decide +kernel), List.mem_of_getElem? (i := 440) (by decide +kernel)⟩
def lw_privs_2 : List (MethodName × Nat) := [(⟨"FlowEquations$Equation", "fits", "(I[I)Z"⟩, 11), (⟨"FlowEquations$Equation", "fitsAt", "(I[I)Z"⟩, 11), (⟨"FlowEquations$Equation", "handClockDown", "(I[I)V"⟩, 11), (⟨"FlowEquations$Checker", "leastNeedingItself", "()I"⟩, 2), (⟨"FlowEquations$Checker", "gatherNeeds", "()V"⟩, 2), (⟨"FlowEquations$Equation", "namesOutsideP", "()I"⟩, 11), (⟨"FlowEquations$Run", "arrange", "([I)V"⟩, 10), (⟨"FlowEquations$Program", "definedCount", "()I"⟩, 2), (⟨"FlowEquations$Run", "passInstant", "()V"⟩, 10), (⟨"FlowEquations$Run", "settle", "(I)V"⟩, 10), (⟨"FlowEquations$Run", "isActive", "(I)Z"⟩, 10), (⟨"FlowEquations$Run", "evaluate", "(LFlowEquations$Equation;)V"⟩, 10), (⟨"FlowEquations$Run", "valueAt", "(LFlowEquations$Equation;I)I"⟩, 10), (⟨"FlowEquations$Run", "operatorValue", "(LFlowEquations$Equation;I)I"⟩, 10), (⟨"FlowEquations$Equation", "partValue", "(II)I"⟩, 11), (⟨"FlowEquations$Run", "hasBegun", "(I)Z"⟩, 10)]
theorem lw_r2 : ∀ q ∈ lw_privs_2, lw_okq q := List.forall_mem_cons.mpr ⟨lw_p16, List.forall_mem_cons.mpr ⟨lw_p17, List.forall_mem_cons.mpr ⟨lw_p18, List.forall_mem_cons.mpr ⟨lw_p19, List.forall_mem_cons.mpr ⟨lw_p20, List.forall_mem_cons.mpr ⟨lw_p21, List.forall_mem_cons.mpr ⟨lw_p22, List.forall_mem_cons.mpr ⟨lw_p23, List.forall_mem_cons.mpr ⟨lw_p24, List.forall_mem_cons.mpr ⟨lw_p25, List.forall_mem_cons.mpr ⟨lw_p26, List.forall_mem_cons.mpr ⟨lw_p27, List.forall_mem_cons.mpr ⟨lw_p28, List.forall_mem_cons.mpr ⟨lw_p29, List.forall_mem_cons.mpr ⟨lw_p30, List.forall_mem_cons.mpr ⟨lw_p31, fun _ h => absurd h List.not_mem_nil⟩⟩⟩⟩⟩⟩⟩⟩⟩⟩⟩⟩⟩⟩⟩⟩
theorem lw_p32 : lw_okq (⟨"FlowEquations$Run", "remember", "(LFlowEquations$Equation;)V"⟩, 10) := ⟨⟨by decide +kernel, by decide +kernel⟩, List.mem_of_getElem? (i := 111) (by decide +kernel), List.mem_of_getElem? (i := 443) (by decide +kernel), List.mem_of_getElem? (i := 444) (by decide +kernel)⟩
theorem lw_p33 : lw_okq (⟨"FlowEquations$Equation", "remembersAt", "(I)Z"⟩, 11) := ⟨⟨by decide +kernel, by decide +kernel⟩, List.mem_of_getElem? (i := 31) (by decide +kernel), List.mem_of_getElem? (i := 447) (by decide +kernel), List.mem_of_getElem? (i := 448) (by decide +kernel)⟩
theorem lw_p34 : lw_okq (⟨"FlowEquations$Run", "rememberingClock", "(LFlowEquations$Equation;I)I"⟩, 10) := ⟨⟨by decide +kernel, by decide +kernel⟩, List.mem_of_getElem? (i := 111) (by decide +kernel), List.mem_of_getElem? (i := 451) (by decide +kernel), List.mem_of_getElem? (i := 452) (by decide +kernel)⟩
theorem lw_p35 : lw_okq (⟨"FlowEquations$Run", "isPresent", "(I)Z"⟩, 10) := ⟨⟨by decide +kernel, by decide +kernel⟩, List.mem_of_getElem? (i := 111) (by decide +kernel), List.mem_of_getElem? (i := 459) (by decide +kernel), List.mem_of_getElem? (i := 460) (by decide +kernel)⟩
theorem lw_p36 : lw_okq (⟨"FlowEquations$Program", "characterCount", "()I"⟩, 2) := ⟨⟨by decide +kernel, by decide +kernel⟩, List.mem_of_getElem? (i := 24) (by decide +kernel), List.mem_of_getElem? (i := 478) (by decide +kernel), List.mem_of_getElem? (i := 479) (by decide +kernel)⟩
theorem lw_p37 : lw_okq (⟨"FlowEquationsModel", "good", "()Z"⟩, 24) := ⟨⟨by decide +kernel, by decide +kernel⟩, List.mem_of_getElem? (i := 483) (by decide +kernel), List.mem_of_getElem? (i := 587) (by decide +kernel), List.mem_of_getElem? (i := 588) (by decide +kernel)⟩
theorem lw_p38 : lw_okq (⟨"FlowEquationsModel", "findEnds", "(I)V"⟩, 24) := ⟨⟨by decide +kernel, by decide +kernel⟩, List.mem_of_getElem? (i := 483) (by decide +kernel), List.mem_of_getElem? (i := 591) (by decide +kernel), List.mem_of_getElem? (i := 592) (by decide +kernel)⟩
theorem lw_p39 : lw_okq (⟨"FlowEquationsModel", "missing", "(I)Z"⟩, 24) := ⟨⟨by decide +kernel, by decide +kernel⟩, List.mem_of_getElem? (i := 483) (by decide +kernel), List.mem_of_getElem? (i := 611) (by decide +kernel), List.mem_of_getElem? (i := 612) (by decide +kernel)⟩
theorem lw_p40 : lw_okq (⟨"FlowEquationsModel", "circles", "(I)Z"⟩, 24) := ⟨⟨by decide +kernel, by decide +kernel⟩, List.mem_of_getElem? (i := 483) (by decide +kernel), List.mem_of_getElem? (i := 615) (by decide +kernel), List.mem_of_getElem? (i := 616) (by decide +kernel)⟩
theorem lw_p41 : lw_okq (⟨"FlowEquationsModel", "fit", "(I)Z"⟩, 24) := ⟨⟨by decide +kernel, by decide +kernel⟩, List.mem_of_getElem? (i := 483) (by decide +kernel), List.mem_of_getElem? (i := 619) (by decide +kernel), List.mem_of_getElem? (i := 620) (by decide +kernel)⟩
theorem lw_p42 : lw_okq (⟨"FlowEquationsModel", "about", "(II)I"⟩, 24) := ⟨⟨by decide +kernel, by decide +kernel⟩, List.mem_of_getElem? (i := 483) (by decide +kernel), List.mem_of_getElem? (i := 623) (by decide +kernel), List.mem_of_getElem? (i := 624) (by decide +kernel)⟩
theorem lw_p43 : lw_okq (⟨"FlowEquationsModel", "child", "(III)I"⟩, 24) := ⟨⟨by decide +kernel, by decide +kernel⟩, List.mem_of_getElem? (i := 483) (by decide +kernel), List.mem_of_getElem? (i := 627) (by decide +kernel), List.mem_of_getElem? (i := 628) (by decide +kernel)⟩
theorem lw_p44 : lw_okq (⟨"FlowEquationsModel", "findNeeds", "()V"⟩, 24) := ⟨⟨by decide +kernel, by decide +kernel⟩, List.mem_of_getElem? (i := 483) (by decide +kernel), List.mem_of_getElem? (i := 631) (by decide +kernel), List.mem_of_getElem? (i := 632) (by decide +kernel)⟩
theorem lw_p45 : lw_okq (⟨"FlowEquationsModel", "needsItself", "(I)Z"⟩, 24) := ⟨⟨by decide +kernel, by decide +kernel⟩, List.mem_of_getElem? (i := 483) (by decide +kernel), List.mem_of_getElem? (i := 635) (by decide +kernel), List.mem_of_getElem? (i := 636) (by decide +kernel)⟩
theorem lw_p46 : lw_okq (⟨"FlowEquationsModel", "instant", "()V"⟩, 24) := ⟨⟨by decide +kernel, by decide +kernel⟩, List.mem_of_getElem? (i := 483) (by decide +kernel), List.mem_of_getElem? (i := 643) (by decide +kernel), List.mem_of_getElem? (i := 644) (by decide +kernel)⟩
theorem lw_p47 : lw_okq (⟨"FlowEquationsModel", "canWork", "(I)Z"⟩, 24) := ⟨⟨by decide +kernel, by decide +kernel⟩, List.mem_of_getElem? (i := 483) (by decide +kernel), List.mem_of_getElem? (i := 647) (by decide +kernel), List.mem_of_getElem? (i := 648) (by decide +kernel)⟩
def lw_privs_3 : List (MethodName × Nat) := [(⟨"FlowEquations$Run", "remember", "(LFlowEquations$Equation;)V"⟩, 10), (⟨"FlowEquations$Equation", "remembersAt", "(I)Z"⟩, 11), (⟨"FlowEquations$Run", "rememberingClock", "(LFlowEquations$Equation;I)I"⟩, 10), (⟨"FlowEquations$Run", "isPresent", "(I)Z"⟩, 10), (⟨"FlowEquations$Program", "characterCount", "()I"⟩, 2), (⟨"FlowEquationsModel", "good", "()Z"⟩, 24), (⟨"FlowEquationsModel", "findEnds", "(I)V"⟩, 24), (⟨"FlowEquationsModel", "missing", "(I)Z"⟩, 24), (⟨"FlowEquationsModel", "circles", "(I)Z"⟩, 24), (⟨"FlowEquationsModel", "fit", "(I)Z"⟩, 24), (⟨"FlowEquationsModel", "about", "(II)I"⟩, 24), (⟨"FlowEquationsModel", "child", "(III)I"⟩, 24), (⟨"FlowEquationsModel", "findNeeds", "()V"⟩, 24), (⟨"FlowEquationsModel", "needsItself", "(I)Z"⟩, 24), (⟨"FlowEquationsModel", "instant", "()V"⟩, 24), (⟨"FlowEquationsModel", "canWork", "(I)Z"⟩, 24)]
theorem lw_r3 : ∀ q ∈ lw_privs_3, lw_okq q := List.forall_mem_cons.mpr ⟨lw_p32, List.forall_mem_cons.mpr ⟨lw_p33, List.forall_mem_cons.mpr ⟨lw_p34, List.forall_mem_cons.mpr ⟨lw_p35, List.forall_mem_cons.mpr ⟨lw_p36, List.forall_mem_cons.mpr ⟨lw_p37, List.forall_mem_cons.mpr ⟨lw_p38, List.forall_mem_cons.mpr ⟨lw_p39, List.forall_mem_cons.mpr ⟨lw_p40, List.forall_mem_cons.mpr ⟨lw_p41, List.forall_mem_cons.mpr ⟨lw_p42, List.forall_mem_cons.mpr ⟨lw_p43, List.forall_mem_cons.mpr ⟨lw_p44, List.forall_mem_cons.mpr ⟨lw_p45, List.forall_mem_cons.mpr ⟨lw_p46, List.forall_mem_cons.mpr ⟨lw_p47, fun _ h => absurd h List.not_mem_nil⟩⟩⟩⟩⟩⟩⟩⟩⟩⟩⟩⟩⟩⟩⟩⟩
theorem lw_p48 : lw_okq (⟨"FlowEquationsModel", "active", "(I)Z"⟩, 24) := ⟨⟨by decide +kernel, by decide +kernel⟩, List.mem_of_getElem? (i := 483) (by decide +kernel), List.mem_of_getElem? (i := 651) (by decide +kernel), List.mem_of_getElem? (i := 652) (by decide +kernel)⟩
theorem lw_p49 : lw_okq (⟨"FlowEquationsModel", "workAll", "(I)V"⟩, 24) := ⟨⟨by decide +kernel, by decide +kernel⟩, List.mem_of_getElem? (i := 483) (by decide +kernel), List.mem_of_getElem? (i := 655) (by decide +kernel), List.mem_of_getElem? (i := 656) (by decide +kernel)⟩
theorem lw_p50 : lw_okq (⟨"FlowEquationsModel", "work", "(II)I"⟩, 24) := ⟨⟨by decide +kernel, by decide +kernel⟩, List.mem_of_getElem? (i := 483) (by decide +kernel), List.mem_of_getElem? (i := 659) (by decide +kernel), List.mem_of_getElem? (i := 660) (by decide +kernel)⟩
theorem lw_p51 : lw_okq (⟨"FlowEquationsModel", "seen", "(I)Z"⟩, 24) := ⟨⟨by decide +kernel, by decide +kernel⟩, List.mem_of_getElem? (i := 483) (by decide +kernel), List.mem_of_getElem? (i := 667) (by decide +kernel), List.mem_of_getElem? (i := 668) (by decide +kernel)⟩
def lw_privs_4 : List (MethodName × Nat) := [(⟨"FlowEquationsModel", "active", "(I)Z"⟩, 24), (⟨"FlowEquationsModel", "workAll", "(I)V"⟩, 24), (⟨"FlowEquationsModel", "work", "(II)I"⟩, 24), (⟨"FlowEquationsModel", "seen", "(I)Z"⟩, 24)]
theorem lw_r4 : ∀ q ∈ lw_privs_4, lw_okq q := List.forall_mem_cons.mpr ⟨lw_p48, List.forall_mem_cons.mpr ⟨lw_p49, List.forall_mem_cons.mpr ⟨lw_p50, List.forall_mem_cons.mpr ⟨lw_p51, fun _ h => absurd h List.not_mem_nil⟩⟩⟩⟩
def lw_privs : List (MethodName × Nat) := lw_privs_1 ++ (lw_privs_2 ++ (lw_privs_3 ++ (lw_privs_4)))
def lw_tbl : List Cond := k2_sels lw_privs ++ tables_1
theorem lw_privs_ok : ∀ q ∈ lw_privs, lw_okq q := by
  show ∀ q ∈ lw_privs_1 ++ (lw_privs_2 ++ (lw_privs_3 ++ (lw_privs_4))), lw_okq q
  exact List.forall_mem_append.mpr ⟨lw_r1, List.forall_mem_append.mpr ⟨lw_r2, List.forall_mem_append.mpr ⟨lw_r3, lw_r4⟩⟩⟩
-- ===== end of PART A; then your names; then what follows =====
end
section
/-! A small machine of our own, over numbered methods: cells by small numbers, frames as lists; what it runs, the JVM runs (the part behind this one). -/
abbrev mC : Type := (Nat × vp_A) ⊕ (Nat × List Value)
abbrev MH : Type := Nat × Nat × (Nat → Option mC)
abbrev ML : Type := List (Option Value)
abbrev MF : Type := Nat × ML × List Value
abbrev MR : Type := Option Value × MH
abbrev SR : Type := (MF × MH) ⊕ ((Nat × List Value × MF) ⊕ Option Value)
/-- the mark of a long's second half -/
abbrev mSec : Option Value := some (.retAddr 0)
def nx (pc : Nat) (lo : ML) (st : List Value) (h : MH) : Option SR := some (.inl ((pc, lo, st), h))
def jm (pc : Nat) (off : Int) (lo : ML) (st : List Value) (h : MH) : Option SR := if 0 ≤ (pc : Int) + off then nx ((pc : Int) + off).toNat lo st h else none
def ldI (pc : Nat) (k : Nat) (lo : ML) (st : List Value) (h : MH) : Option SR := match lo[k]? with
  | some (some (.int x)) => nx pc lo (.int x :: st) h
  | _ => none
def ldJ (pc : Nat) (k : Nat) (lo : ML) (st : List Value) (h : MH) : Option SR := match lo[k]? with
  | some (some (.long x)) => if lo[k + 1]? = some mSec then nx pc lo (.long x :: st) h else none
  | _ => none
def ldA (pc : Nat) (k : Nat) (lo : ML) (st : List Value) (h : MH) : Option SR := match lo[k]? with
  | some (some (.ref x)) => nx pc lo (.ref x :: st) h
  | _ => none
def stI (pc : Nat) (k : Nat) (lo : ML) (st : List Value) (h : MH) : Option SR := match st with
  | .int x :: r => if k < lo.length then nx pc (lo.set k (some (.int x))) r h else none
  | _ => none
def stJ (pc : Nat) (k : Nat) (lo : ML) (st : List Value) (h : MH) : Option SR := match st with
  | .long x :: r => if k + 1 < lo.length then nx pc ((lo.set k (some (.long x))).set (k + 1) mSec) r h else none
  | _ => none
def stA (pc : Nat) (k : Nat) (lo : ML) (st : List Value) (h : MH) : Option SR := match st with
  | .ref x :: r => if k < lo.length then nx pc (lo.set k (some (.ref x))) r h else none
  | _ => none
def inc (pc : Nat) (k : Nat) (n : Int) (lo : ML) (st : List Value) (h : MH) : Option SR := match lo[k]? with
  | some (some (.int x)) => nx pc (lo.set k (some (.int (x + Int32.ofInt n)))) st h
  | _ => none
def ar1 (f : Int32 → Int32) (pc : Nat) (lo : ML) (st : List Value) (h : MH) : Option SR := match st with
  | .int x :: r => nx pc lo (.int (f x) :: r) h
  | _ => none
def ar2 (f : Int32 → Int32 → Int32) (pc : Nat) (lo : ML) (st : List Value) (h : MH) : Option SR := match st with
  | .int y :: .int x :: r => nx pc lo (.int (f x y) :: r) h
  | _ => none
def al2 (f : Int64 → Int64 → Int64) (pc : Nat) (lo : ML) (st : List Value) (h : MH) : Option SR := match st with
  | .long y :: .long x :: r => nx pc lo (.long (f x y) :: r) h
  | _ => none
def als (f : Int64 → Int32 → Int64) (pc : Nat) (lo : ML) (st : List Value) (h : MH) : Option SR := match st with
  | .int y :: .long x :: r => nx pc lo (.long (f x y) :: r) h
  | _ => none
def cb (k : ClassFile.Cond) (x y : Int32) : Bool := match k with
  | .eq => decide (x = y)
  | .ne => decide (¬ x = y)
  | .lt => decide (x < y)
  | .ge => decide (y ≤ x)
  | .gt => decide (y < x)
  | .le => decide (x ≤ y)
def br1 (k : ClassFile.Cond) (pc : Nat) (off : Int) (lo : ML) (st : List Value) (h : MH) : Option SR := match st with
  | .int x :: r => if 0 ≤ (pc : Int) + off then (if cb k x 0 = true then nx ((pc : Int) + off).toNat lo r h else nx (pc + 3) lo r h) else none
  | _ => none
def br2 (k : ClassFile.Cond) (pc : Nat) (off : Int) (lo : ML) (st : List Value) (h : MH) : Option SR := match st with
  | .int y :: .int x :: r => if 0 ≤ (pc : Int) + off then (if cb k x y = true then nx ((pc : Int) + off).toNat lo r h else nx (pc + 3) lo r h) else none
  | _ => none
def swL (dflt : Int) (ps : Array (Int × Int)) (pc : Nat) (lo : ML) (st : List Value) (h : MH) : Option SR := match st with
  | .int x :: r => if (ps.toList.zip (ps.toList.drop 1)).all (fun (a, next) => a.1 < next.1) = true then jm pc (Op.lookupswitch.offset ps.toList dflt x.toInt) lo r h else none
  | _ => none
def swT (dflt lw hi : Int) (offs : Array Int) (pc : Nat) (lo : ML) (st : List Value) (h : MH) : Option SR := match st with
  | .int x :: r => if x.toInt < lw ∨ hi < x.toInt then jm pc dflt lo r h else (match offs[(x.toInt - lw).toNat]? with
    | some off => jm pc off lo r h
    | none => none)
  | _ => none
def du1 (pc : Nat) (lo : ML) (st : List Value) (h : MH) : Option SR := match st with
  | v :: r => if v.category = 1 then nx pc lo (v :: v :: r) h else none
  | _ => none
def dux1 (pc : Nat) (lo : ML) (st : List Value) (h : MH) : Option SR := match st with
  | v :: w :: r => if v.category = 1 ∧ w.category = 1 then nx pc lo (v :: w :: v :: r) h else none
  | _ => none
def dux2 (pc : Nat) (lo : ML) (st : List Value) (h : MH) : Option SR := match st with
  | v :: w :: u :: r => if v.category = 1 ∧ w.category = 1 ∧ u.category = 1 then nx pc lo (v :: w :: u :: v :: r) h else none
  | _ => none
def du2 (pc : Nat) (lo : ML) (st : List Value) (h : MH) : Option SR := match st with
  | v :: w :: r => if v.category = 1 ∧ w.category = 1 then nx pc lo (v :: w :: v :: w :: r) h else none
  | _ => none
def po1 (pc : Nat) (lo : ML) (st : List Value) (h : MH) : Option SR := match st with
  | v :: r => if v.category = 1 then nx pc lo r h else none
  | _ => none
def i2lS (pc : Nat) (lo : ML) (st : List Value) (h : MH) : Option SR := match st with
  | .int x :: r => nx pc lo (.long x.toInt64 :: r) h
  | _ => none
def l2iS (pc : Nat) (lo : ML) (st : List Value) (h : MH) : Option SR := match st with
  | .long x :: r => nx pc lo (.int x.toInt32 :: r) h
  | _ => none
def lcmpS (pc : Nat) (lo : ML) (st : List Value) (h : MH) : Option SR := match st with
  | .long y :: .long x :: r => nx pc lo (.int (lg_cmp x y) :: r) h
  | _ => none
def dvS (f : Int32 → Int32 → Int32) (pc : Nat) (lo : ML) (st : List Value) (h : MH) : Option SR := match st with
  | .int y :: .int x :: r => if y = 0 then none else nx pc lo (.int (f x y) :: r) h
  | _ => none
/-- how long an instruction is -/
def sw : Instr → Bool
  | .lookupswitch _ _ => true
  | .tableswitch _ _ _ _ => true
  | _ => false
def ln : Instr → Nat
  | .aload _ => 2 | .iload _ => 2 | .lload _ => 2 | .astore _ => 2 | .istore _ => 2 | .lstore _ => 2 | .bipush _ => 2 | .ldc _ => 2 | .newarray _ => 2
  | .sipush _ => 3 | .getfield _ => 3 | .putfield _ => 3 | .getstatic _ => 3 | .iinc _ _ => 3 | .if_icmp _ _ => 3 | .ifCond _ _ => 3 | .if_acmp _ _ => 3 | .ifnull _ => 3 | .ifnonnull _ => 3 | .goto _ => 3
  | .invokespecial _ => 3 | .invokestatic _ => 3 | .invokevirtual _ => 3 | .new _ => 3 | .anewarray _ => 3 | .ldc2_w _ => 3 | .ldc_w _ => 3 | .checkcast _ => 3
  | _ => 1
/-- a step that looks at the frame alone -/
def stpP (i : Instr) (pc : Nat) (lo : ML) (st : List Value) (h : MH) : Option SR := match i with
  | .iconst n => nx (pc + 1) lo (.int (Int32.ofInt n) :: st) h
  | .bipush n => nx (pc + 2) lo (.int (Int8.ofInt n).toInt32 :: st) h
  | .sipush n => nx (pc + 3) lo (.int (Int16.ofInt n).toInt32 :: st) h
  | .lconst n => nx (pc + 1) lo (.long (Int64.ofNat n) :: st) h
  | .iload_n k => ldI (pc + 1) k lo st h
  | .iload k => ldI (pc + 2) k lo st h
  | .lload_n k => ldJ (pc + 1) k lo st h
  | .lload k => ldJ (pc + 2) k lo st h
  | .aload_n k => ldA (pc + 1) k lo st h
  | .aload k => ldA (pc + 2) k lo st h
  | .istore_n k => stI (pc + 1) k lo st h
  | .istore k => stI (pc + 2) k lo st h
  | .lstore_n k => stJ (pc + 1) k lo st h
  | .lstore k => stJ (pc + 2) k lo st h
  | .astore_n k => stA (pc + 1) k lo st h
  | .astore k => stA (pc + 2) k lo st h
  | .iinc k n => inc (pc + 3) k n lo st h
  | .iadd => ar2 (fun x y => x + y) (pc + 1) lo st h
  | .isub => ar2 (fun x y => x - y) (pc + 1) lo st h
  | .imul => ar2 (fun x y => x * y) (pc + 1) lo st h
  | .iand => ar2 (fun x y => x &&& y) (pc + 1) lo st h
  | .ior => ar2 (fun x y => x ||| y) (pc + 1) lo st h
  | .ixor => ar2 (fun x y => x ^^^ y) (pc + 1) lo st h
  | .ishl => ar2 (fun x y => x <<< (y &&& 31)) (pc + 1) lo st h
  | .ishr => ar2 (fun x y => x >>> (y &&& 31)) (pc + 1) lo st h
  | .iushr => ar2 (fun x y => (x.toUInt32 >>> (y.toUInt32 &&& Int32.toUInt32 31)).toInt32) (pc + 1) lo st h
  | .idiv => dvS (fun x y => x / y) (pc + 1) lo st h
  | .irem => dvS (fun x y => x - x / y * y) (pc + 1) lo st h
  | .ineg => ar1 (fun x => -x) (pc + 1) lo st h
  | .ladd => al2 (fun x y => x + y) (pc + 1) lo st h
  | .lsub => al2 (fun x y => x - y) (pc + 1) lo st h
  | .lmul => al2 (fun x y => x * y) (pc + 1) lo st h
  | .land => al2 (fun x y => x &&& y) (pc + 1) lo st h
  | .lor => al2 (fun x y => x ||| y) (pc + 1) lo st h
  | .lxor => al2 (fun x y => x ^^^ y) (pc + 1) lo st h
  | .lushr => als (fun x y => (x.toUInt64 >>> (y.toInt64.toUInt64 &&& Int64.toUInt64 63)).toInt64) (pc + 1) lo st h
  | .lshl => als (fun x y => x <<< (y.toInt64 &&& 63)) (pc + 1) lo st h
  | .lshr => als (fun x y => x >>> (y.toInt64 &&& 63)) (pc + 1) lo st h
  | .lcmp => lcmpS (pc + 1) lo st h
  | .i2l => i2lS (pc + 1) lo st h
  | .l2i => l2iS (pc + 1) lo st h
  | .dup => du1 (pc + 1) lo st h
  | .dup_x1 => dux1 (pc + 1) lo st h
  | .dup_x2 => dux2 (pc + 1) lo st h
  | .dup2 => du2 (pc + 1) lo st h
  | .pop => po1 (pc + 1) lo st h
  | .goto off => jm pc off lo st h
  | .ifCond k off => br1 k pc off lo st h
  | .if_icmp k off => br2 k pc off lo st h
  | .lookupswitch dflt ps => swL dflt ps pc lo st h
  | .tableswitch dflt lw hi offs => swT dflt lw hi offs pc lo st h
  | _ => none
def fgetv (h : MH) (a ci k : Nat) : Option Value := match h.2.2 a with
  | some (.inr (c, fs)) => if c = ci then fs[k]? else none
  | _ => none
def fputh (h : MH) (a ci k : Nat) (ty : FieldType) (v : Value) : Option MH := match h.2.2 a with
  | some (.inr (c, fs)) => if c = ci ∧ k < fs.length ∧ narrow ty v = v ∧ fits ty v = true then some (h.1, h.2.1, va_up h.2.2 a (some (.inr (c, fs.set k v)))) else none
  | _ => none
/-- arrays: sort 0 int, 1 boolean, 2 long, 3 byte; from 10 on of references -/
def ageti (h : MH) (t a : Nat) (i : Int32) : Option Int32 := match h.2.2 a with
  | some (.inl (t', n, .inl f)) => if t' = t ∧ ¬ (i < 0 ∨ n ≤ i.toNatClampNeg) then some (f i.toNatClampNeg) else none
  | _ => none
def aputi (h : MH) (t a : Nat) (i x : Int32) : Option MH := match h.2.2 a with
  | some (.inl (t', n, .inl f)) => if t' = t ∧ ¬ (i < 0 ∨ n ≤ i.toNatClampNeg) ∧ a ≠ 0 then some (h.1, h.2.1, va_up h.2.2 a (some (.inl (t', n, .inl (upd f i.toNatClampNeg x))))) else none
  | _ => none
def agetl (h : MH) (t a : Nat) (i : Int32) : Option Int64 := match h.2.2 a with
  | some (.inl (t', n, .inr (.inl f))) => if t' = t ∧ ¬ (i < 0 ∨ n ≤ i.toNatClampNeg) then some (f i.toNatClampNeg) else none
  | _ => none
def aputl (h : MH) (t a : Nat) (i : Int32) (x : Int64) : Option MH := match h.2.2 a with
  | some (.inl (t', n, .inr (.inl f))) => if t' = t ∧ ¬ (i < 0 ∨ n ≤ i.toNatClampNeg) ∧ a ≠ 0 then some (h.1, h.2.1, va_up h.2.2 a (some (.inl (t', n, .inr (.inl (vp_updL f i.toNatClampNeg x)))))) else none
  | _ => none
def agetr (h : MH) (a : Nat) (i : Int32) : Option (Option Nat) := match h.2.2 a with
  | some (.inl (t', n, .inr (.inr (.inr (.inr f))))) => if 10 ≤ t' ∧ ¬ (i < 0 ∨ n ≤ i.toNatClampNeg) then some (f i.toNatClampNeg) else none
  | _ => none
/-- the class of an object -/
def clsOf (h : MH) (a : Nat) : Option Nat := match h.2.2 a with
  | some (.inr (c, _)) => some c
  | _ => none
/-- sort 10 + ci: an array of objects of class ci -/
def aputr (h : MH) (a : Nat) (i : Int32) (v : Nat) : Option MH := match h.2.2 a with
  | some (.inl (t', n, .inr (.inr (.inr (.inr f))))) => if 10 ≤ t' ∧ clsOf h v = some (t' - 10) ∧ ¬ (i < 0 ∨ n ≤ i.toNatClampNeg) ∧ a ≠ 0 then some (h.1, h.2.1, va_up h.2.2 a (some (.inl (t', n, .inr (.inr (.inr (.inr (va_up f i.toNatClampNeg (some v)))))))) ) else none
  | _ => none
def alenv (h : MH) (a : Nat) : Option Int32 := match h.2.2 a with
  | some (.inl (_, n, _)) => some (Int32.ofNat n)
  | _ => none
def mkobj (h : MH) (ci N : Nat) (fs : List Value) : MH := (h.1 + 1, h.2.1 + N, va_up h.2.2 h.1 (some (.inr (ci, fs))))
def mkarr (h : MH) (t n : Nat) (x : (Nat → Int32) ⊕ (Nat → Int64) ⊕ (Nat → UInt32) ⊕ (Nat → UInt64) ⊕ (Nat → Option Nat)) : MH := (h.1 + 1, h.2.1 + n, va_up h.2.2 h.1 (some (.inl (t, n, x))))
def cats (l : List Value) : Nat := (l.map fun v => v.category).sum
end
section
/-! The small machine's cells and frames beside the JVM's. Address 0 is the script (b), address k + 1 the k-th cell from B on. -/
def ad (b B : Nat) : Nat → Nat
  | 0 => b
  | k + 1 => B + k
def up (b B : Nat) : Value → Value
  | .ref k => .ref (ad b B k)
  | v => v
def cvA (b B : Nat) : ((Nat → Int32) ⊕ (Nat → Int64) ⊕ (Nat → UInt32) ⊕ (Nat → UInt64) ⊕ (Nat → Option Nat)) → ((Nat → Int32) ⊕ (Nat → Int64) ⊕ (Nat → UInt32) ⊕ (Nat → UInt64) ⊕ (Nat → Option Nat))
  | .inr (.inr (.inr (.inr f))) => .inr (.inr (.inr (.inr (fun j => (f j).map (ad b B)))))
  | x => x
def cv (b B : Nat) (dA : Nat → ClassId) : mC → va_E
  | .inl (t, n, x) => .inl (dA t, n, cvA b B x)
  | .inr (ci, fs) => .inr (ci, fs.map (up b B))
theorem up_rf (b B : Nat) (r : Option Nat) : va_rf (r.map (ad b B)) = up b B (va_rf r) := by cases r <;> rfl
theorem up_cat (b B : Nat) (v : Value) : (up b B v).category = v.category := by cases v <;> rfl
theorem up_cats (b B : Nat) (l : List Value) : ((l.map (up b B)).map fun v => v.category).sum = cats l := by
  unfold cats
  rw [List.map_map]
  congr 1
  exact List.map_congr_left fun v _ => up_cat b B v
theorem up_narrow {b B : Nat} {ty : FieldType} {v : Value} (h : narrow ty v = v) : narrow ty (up b B v) = up b B v := by
  cases v <;> first | exact h | (cases ty <;> rfl)
theorem up_fits {b B : Nat} {ty : FieldType} {v : Value} (h : fits ty v = true) : fits ty (up b B v) = true := by
  cases v <;> first | exact h | (cases ty <;> first | rfl | exact h)
/-- the known locals -/
def lis1 (b B : Nat) (lo : ML) (i : Nat) : Option (Nat × Value) := match lo[i]? with
  | some (some (.int x)) => some (i, .int x)
  | some (some (.ref a)) => some (i, .ref (ad b B a))
  | some (some (.long x)) => if lo[i + 1]? = some mSec then some (i, .long x) else none
  | _ => none
def lis (b B : Nat) (lo : ML) : List (Nat × Value) := (List.range lo.length).filterMap (lis1 b B lo)
def RL (b B : Nat) (lo : ML) (ls : Array Slot) : Prop := lv_has ls lo.length (lis b B lo)
theorem lis_mem {b B : Nat} {lo : ML} {q : Nat × Value} : q ∈ lis b B lo ↔ ∃ i, i < lo.length ∧ lis1 b B lo i = some q := by
  simp [lis, List.mem_filterMap]
theorem lis_in {b B : Nat} {lo : ML} {i : Nat} {v : Value} (h : lis1 b B lo i = some (i, v)) : (i, v) ∈ lis b B lo := by
  refine lis_mem.mpr ⟨i, ?_, h⟩
  apply Classical.byContradiction
  intro hn
  have h1 : lo[i]? = none := List.getElem?_eq_none_iff.mpr (Nat.not_lt.mp hn)
  rw [lis1, h1] at h
  cases h
theorem lis1_fst {b B : Nat} {lo : ML} {i : Nat} {q : Nat × Value} (h : lis1 b B lo i = some q) : q.1 = i := by
  unfold lis1 at h
  split at h
  · cases h; rfl
  · cases h; rfl
  · split at h
    · cases h; rfl
    · cases h
  · cases h
theorem RL.at {b B : Nat} {lo : ML} {ls : Array Slot} (h : RL b B lo ls) {i : Nat} {v : Value} (hv : lis1 b B lo i = some (i, v)) : ls[i]? = some (.val v) := h.2.2 (i, v) (lis_in hv)
theorem RL.sub {b B : Nat} {lo : ML} {ls : Array Slot} {n : Nat} {l : List (Nat × Value)} (h : lv_has ls n l) (hn : n = lo.length) (hs : ∀ q ∈ lis b B lo, q ∈ l) : RL b B lo ls := by
  subst hn
  exact ⟨h.1, h.2.1, fun q hq => h.2.2 q (hs q hq)⟩
theorem lis_set1 {b B : Nat} {lo : ML} {k : Nat} {v : Value} (hk : k < lo.length) (hv : (∃ x, v = .int x) ∨ ∃ a, v = .ref a) : ∀ q ∈ lis b B (lo.set k (some v)), q ∈ (k, up b B v) :: (lis b B lo).filter (fun q => !(q.1 == k) && !(q.1 + 1 == k && q.2.category == 2)) := by
  intro q hq
  obtain ⟨i, hi, h⟩ := lis_mem.mp hq
  rw [List.length_set] at hi
  by_cases hik : i = k
  · subst hik
    have h1 : lis1 b B (lo.set i (some v)) i = some (i, up b B v) := by
      rcases hv with ⟨x, rfl⟩ | ⟨a, rfl⟩ <;> simp [lis1, hk, up]
    rw [h1] at h
    cases h
    exact List.mem_cons_self
  · have g0 : (lo.set k (some v))[i]? = lo[i]? := List.getElem?_set_ne (Ne.symm hik)
    refine List.mem_cons_of_mem _ (List.mem_filter.mpr ?_)
    have key : lis1 b B lo i = some q ∧ (i + 1 = k → ¬ q.2.category = 2) := by
      unfold lis1 at h ⊢
      rw [g0] at h
      split at h
      · next x hx => cases h; exact ⟨rfl, fun _ => by simp [Value.category]⟩
      · next a hx => cases h; exact ⟨rfl, fun _ => by simp [Value.category]⟩
      · next x hx =>
        split at h
        · next hs =>
          cases h
          by_cases hk1 : i + 1 = k
          · exfalso
            rw [hk1, List.getElem?_set_self hk] at hs
            rcases hv with ⟨x, rfl⟩ | ⟨a, rfl⟩ <;> cases hs
          · rw [List.getElem?_set_ne (Ne.symm hk1)] at hs
            exact ⟨if_pos hs, fun h => absurd h hk1⟩
        · cases h
      · cases h
    have hq1 : q.1 = i := lis1_fst key.1
    refine ⟨lis_mem.mpr ⟨i, hi, key.1⟩, ?_⟩
    rw [hq1]
    simp only [Bool.and_eq_true, Bool.not_eq_true', beq_eq_false_iff_ne, ne_eq, Bool.and_eq_false_iff]
    refine ⟨hik, ?_⟩
    by_cases hk1 : i + 1 = k
    · exact Or.inr (by simpa using key.2 hk1)
    · exact Or.inl hk1
theorem lis_set2 {b B : Nat} {lo : ML} {k : Nat} {x : Int64} (hk : k + 1 < lo.length) : ∀ q ∈ lis b B ((lo.set k (some (.long x))).set (k + 1) mSec), q ∈ (k, Value.long x) :: (lis b B lo).filter (fun q => !(q.1 == k) && (!(q.1 == k + 1) && !(q.1 + 1 == k && q.2.category == 2))) := by
  intro q hq
  obtain ⟨i, hi, h⟩ := lis_mem.mp hq
  rw [List.length_set, List.length_set] at hi
  by_cases hik : i = k
  · subst hik
    have e1 : ((lo.set i (some (.long x))).set (i + 1) mSec)[i]? = some (some (.long x)) := by
      rw [List.getElem?_set_ne (by omega), List.getElem?_set_self (by omega)]
    have e2 : ((lo.set i (some (.long x))).set (i + 1) mSec)[i + 1]? = some mSec := by
      rw [List.getElem?_set_self (by rw [List.length_set]; exact hk)]
    unfold lis1 at h
    rw [e1] at h
    simp only [e2, if_true] at h
    cases h
    exact List.mem_cons_self
  · by_cases hik2 : i = k + 1
    · exfalso
      subst hik2
      unfold lis1 at h
      rw [List.getElem?_set_self (by rw [List.length_set]; exact hk)] at h
      cases h
    · have g0 : ((lo.set k (some (.long x))).set (k + 1) mSec)[i]? = lo[i]? := by
        rw [List.getElem?_set_ne (Ne.symm hik2), List.getElem?_set_ne (Ne.symm hik)]
      refine List.mem_cons_of_mem _ (List.mem_filter.mpr ?_)
      have key : lis1 b B lo i = some q ∧ (i + 1 = k → ¬ q.2.category = 2) := by
        unfold lis1 at h ⊢
        rw [g0] at h
        split at h
        · next x hx => cases h; exact ⟨rfl, fun _ => by simp [Value.category]⟩
        · next a hx => cases h; exact ⟨rfl, fun _ => by simp [Value.category]⟩
        · next y hx =>
          split at h
          · next hs =>
            cases h
            by_cases hk1 : i + 1 = k
            · exfalso
              rw [hk1, List.getElem?_set_ne (by omega), List.getElem?_set_self (by omega)] at hs
              cases hs
            · rw [List.getElem?_set_ne (by omega), List.getElem?_set_ne (Ne.symm hk1)] at hs
              exact ⟨if_pos hs, fun h => absurd h hk1⟩
          · cases h
        · cases h
      have hq1 : q.1 = i := lis1_fst key.1
      refine ⟨lis_mem.mpr ⟨i, hi, key.1⟩, ?_⟩
      rw [hq1]
      simp only [Bool.and_eq_true, Bool.not_eq_true', beq_eq_false_iff_ne, ne_eq, Bool.and_eq_false_iff]
      refine ⟨hik, hik2, ?_⟩
      by_cases hk1 : i + 1 = k
      · exact Or.inr (by simpa using key.2 hk1)
      · exact Or.inl hk1
/-! Steps that look at the frame alone: the JVM does what the small machine does. -/
def dec (cc : ByteArray) (pc : Nat) (i : Instr) : Prop := ∃ len, decode cc pc = .ok (i, len) ∧ (sw i = false → len = ln i)
def SimP (Wf : JFrame → Prop) (m : MethodId) (b B pc : Nat) (lo : ML) (st : List Value) (h : MH) (r : SR) : Prop :=
  ∃ (pc' : Nat) (lo' : ML) (st' : List Value), r = .inl ((pc', lo', st'), h) ∧ ((∀ ls', RL b B lo' ls' → Wf (F0 m pc' ls' (st'.map (up b B)))) → ∀ ls, RL b B lo ls → Wf (F0 m pc ls (st.map (up b B))))
section SP
variable {Wf : JFrame → Prop} {m : MethodId} {b B pc pc' : Nat} {lo : ML} {st : List Value} {h : MH} {r : SR}
theorem s_nx {st' : List Value} (row : ∀ ls, Wf (F0 m pc' ls (st'.map (up b B))) → Wf (F0 m pc ls (st.map (up b B)))) (hs : nx pc' lo st' h = some r) : SimP Wf m b B pc lo st h r := by
  cases hs
  exact ⟨_, _, _, rfl, fun k ls hl => row ls (k ls hl)⟩
theorem s_jm {off : Int} {st' : List Value} (row : ∀ ls (tgt : Nat), (pc : Int) + off = (tgt : Int) → Wf (F0 m tgt ls (st'.map (up b B))) → Wf (F0 m pc ls (st.map (up b B)))) (hs : jm pc off lo st' h = some r) : SimP Wf m b B pc lo st h r := by
  unfold jm at hs
  split at hs
  · next hn =>
    cases hs
    exact ⟨_, _, _, rfl, fun k ls hl => row ls _ (Int.toNat_of_nonneg hn).symm (k ls hl)⟩
  · cases hs
theorem s_ldI {k : Nat} (row : ∀ (x : Int32) ls, ls[k]? = some (.val (.int x)) → Wf (F0 m pc' ls (.int x :: st.map (up b B))) → Wf (F0 m pc ls (st.map (up b B)))) (hs : ldI pc' k lo st h = some r) : SimP Wf m b B pc lo st h r := by
  unfold ldI at hs
  split at hs
  · next x hx =>
    cases hs
    exact ⟨_, _, _, rfl, fun kk ls hl => row x ls (hl.at (by rw [lis1, hx])) (kk ls hl)⟩
  · cases hs
theorem s_ldJ {k : Nat} (row : ∀ (x : Int64) ls, ls[k]? = some (.val (.long x)) → Wf (F0 m pc' ls (.long x :: st.map (up b B))) → Wf (F0 m pc ls (st.map (up b B)))) (hs : ldJ pc' k lo st h = some r) : SimP Wf m b B pc lo st h r := by
  unfold ldJ at hs
  split at hs
  · next x hx =>
    split at hs
    · next hx2 =>
      cases hs
      exact ⟨_, _, _, rfl, fun kk ls hl => row x ls (hl.at (by rw [lis1, hx]; simp [hx2])) (kk ls hl)⟩
    · cases hs
  · cases hs
theorem s_ldA {k : Nat} (row : ∀ (x : Nat) ls, ls[k]? = some (.val (.ref x)) → Wf (F0 m pc' ls (.ref x :: st.map (up b B))) → Wf (F0 m pc ls (st.map (up b B)))) (hs : ldA pc' k lo st h = some r) : SimP Wf m b B pc lo st h r := by
  unfold ldA at hs
  split at hs
  · next x hx =>
    cases hs
    exact ⟨_, _, _, rfl, fun kk ls hl => row _ ls (hl.at (by rw [lis1, hx])) (kk ls hl)⟩
  · cases hs
theorem s_stI {k : Nat} (row : ∀ (x : Int32) (rest : List Value) ls lv, lv_has ls lo.length lv → k < lo.length → (∀ ls', lv_has ls' lo.length ((k, Value.int x) :: lv.filter (fun q => !(q.1 == k) && !(q.1 + 1 == k && q.2.category == 2))) → Wf (F0 m pc' ls' rest)) → Wf (F0 m pc ls (.int x :: rest))) (hs : stI pc' k lo st h = some r) : SimP Wf m b B pc lo st h r := by
  unfold stI at hs
  split at hs
  · next x rest =>
    split at hs
    · next hk =>
      cases hs
      exact ⟨_, _, _, rfl, fun kk ls hl => row x _ ls _ hl hk fun ls' h' => kk ls' (RL.sub h' (by simp) (lis_set1 hk (Or.inl ⟨x, rfl⟩)))⟩
    · cases hs
  · cases hs
theorem s_stJ {k : Nat} (row : ∀ (x : Int64) (rest : List Value) ls lv, lv_has ls lo.length lv → k + 1 < lo.length → (∀ ls', lv_has ls' lo.length ((k, Value.long x) :: lv.filter (fun q => !(q.1 == k) && (!(q.1 == k + 1) && !(q.1 + 1 == k && q.2.category == 2)))) → Wf (F0 m pc' ls' rest)) → Wf (F0 m pc ls (.long x :: rest))) (hs : stJ pc' k lo st h = some r) : SimP Wf m b B pc lo st h r := by
  unfold stJ at hs
  split at hs
  · next x rest =>
    split at hs
    · next hk =>
      cases hs
      exact ⟨_, _, _, rfl, fun kk ls hl => row x _ ls _ hl hk fun ls' h' => kk ls' (RL.sub h' (by simp) (lis_set2 hk))⟩
    · cases hs
  · cases hs
theorem s_stA {k : Nat} (row : ∀ (x : Nat) (rest : List Value) ls lv, lv_has ls lo.length lv → k < lo.length → (∀ ls', lv_has ls' lo.length ((k, Value.ref x) :: lv.filter (fun q => !(q.1 == k) && !(q.1 + 1 == k && q.2.category == 2))) → Wf (F0 m pc' ls' rest)) → Wf (F0 m pc ls (.ref x :: rest))) (hs : stA pc' k lo st h = some r) : SimP Wf m b B pc lo st h r := by
  unfold stA at hs
  split at hs
  · next x rest =>
    split at hs
    · next hk =>
      cases hs
      exact ⟨_, _, _, rfl, fun kk ls hl => row _ _ ls _ hl hk fun ls' h' => kk ls' (RL.sub h' (by simp) (lis_set1 hk (Or.inr ⟨x, rfl⟩)))⟩
    · cases hs
  · cases hs
theorem s_inc {k : Nat} {n : Int} (row : ∀ (x : Int32) (ls : Array Slot) (lv : List (Nat × Value)) (j : Nat), lv_has ls lo.length lv → lv[j]? = some (k, Value.int x) → k < lo.length → (∀ ls', lv_has ls' lo.length ((k, Value.int (x + Int32.ofInt n)) :: lv.filter (fun q => !(q.1 == k) && !(q.1 + 1 == k && q.2.category == 2))) → Wf (F0 m pc' ls' (st.map (up b B)))) → Wf (F0 m pc ls (st.map (up b B)))) (hs : inc pc' k n lo st h = some r) : SimP Wf m b B pc lo st h r := by
  unfold inc at hs
  split at hs
  · next x hx =>
    cases hs
    have hk : k < lo.length := (List.getElem?_eq_some_iff.mp hx).1
    obtain ⟨j, hj⟩ := List.getElem?_of_mem (lis_in (b := b) (B := B) (lo := lo) (i := k) (v := .int x) (by rw [lis1, hx]))
    exact ⟨_, _, _, rfl, fun kk ls hl => row x ls _ j hl hj hk fun ls' h' => kk ls' (RL.sub h' (by simp) (lis_set1 hk (Or.inl ⟨_, rfl⟩)))⟩
  · cases hs
theorem s_ar1 {f : Int32 → Int32} (row : ∀ (x : Int32) (rest : List Value) ls, Wf (F0 m pc' ls (.int (f x) :: rest)) → Wf (F0 m pc ls (.int x :: rest))) (hs : ar1 f pc' lo st h = some r) : SimP Wf m b B pc lo st h r := by
  unfold ar1 at hs
  split at hs
  · cases hs
    exact ⟨_, _, _, rfl, fun k ls hl => row _ _ ls (k ls hl)⟩
  · cases hs
theorem s_ar2 {f : Int32 → Int32 → Int32} (row : ∀ (x y : Int32) (rest : List Value) ls, Wf (F0 m pc' ls (.int (f x y) :: rest)) → Wf (F0 m pc ls (.int y :: .int x :: rest))) (hs : ar2 f pc' lo st h = some r) : SimP Wf m b B pc lo st h r := by
  unfold ar2 at hs
  split at hs
  · cases hs
    exact ⟨_, _, _, rfl, fun k ls hl => row _ _ _ ls (k ls hl)⟩
  · cases hs
theorem s_dv {f : Int32 → Int32 → Int32} (row : ∀ (x y : Int32) (rest : List Value) ls, ¬ y = 0 → Wf (F0 m pc' ls (.int (f x y) :: rest)) → Wf (F0 m pc ls (.int y :: .int x :: rest))) (hs : dvS f pc' lo st h = some r) : SimP Wf m b B pc lo st h r := by
  unfold dvS at hs
  split at hs
  · split at hs
    · cases hs
    · next hy =>
      cases hs
      exact ⟨_, _, _, rfl, fun k ls hl => row _ _ _ ls hy (k ls hl)⟩
  · cases hs
theorem s_al2 {f : Int64 → Int64 → Int64} (row : ∀ (x y : Int64) (rest : List Value) ls, Wf (F0 m pc' ls (.long (f x y) :: rest)) → Wf (F0 m pc ls (.long y :: .long x :: rest))) (hs : al2 f pc' lo st h = some r) : SimP Wf m b B pc lo st h r := by
  unfold al2 at hs
  split at hs
  · cases hs
    exact ⟨_, _, _, rfl, fun k ls hl => row _ _ _ ls (k ls hl)⟩
  · cases hs
theorem s_als {f : Int64 → Int32 → Int64} (row : ∀ (x : Int64) (y : Int32) (rest : List Value) ls, Wf (F0 m pc' ls (.long (f x y) :: rest)) → Wf (F0 m pc ls (.int y :: .long x :: rest))) (hs : als f pc' lo st h = some r) : SimP Wf m b B pc lo st h r := by
  unfold als at hs
  split at hs
  · cases hs
    exact ⟨_, _, _, rfl, fun k ls hl => row _ _ _ ls (k ls hl)⟩
  · cases hs
theorem s_lcmp (row : ∀ (x y : Int64) (rest : List Value) ls, Wf (F0 m pc' ls (.int (lg_cmp x y) :: rest)) → Wf (F0 m pc ls (.long y :: .long x :: rest))) (hs : lcmpS pc' lo st h = some r) : SimP Wf m b B pc lo st h r := by
  unfold lcmpS at hs
  split at hs
  · cases hs
    exact ⟨_, _, _, rfl, fun k ls hl => row _ _ _ ls (k ls hl)⟩
  · cases hs
theorem s_i2l (row : ∀ (x : Int32) (rest : List Value) ls, Wf (F0 m pc' ls (.long x.toInt64 :: rest)) → Wf (F0 m pc ls (.int x :: rest))) (hs : i2lS pc' lo st h = some r) : SimP Wf m b B pc lo st h r := by
  unfold i2lS at hs
  split at hs
  · cases hs
    exact ⟨_, _, _, rfl, fun k ls hl => row _ _ ls (k ls hl)⟩
  · cases hs
theorem s_l2i (row : ∀ (x : Int64) (rest : List Value) ls, Wf (F0 m pc' ls (.int x.toInt32 :: rest)) → Wf (F0 m pc ls (.long x :: rest))) (hs : l2iS pc' lo st h = some r) : SimP Wf m b B pc lo st h r := by
  unfold l2iS at hs
  split at hs
  · cases hs
    exact ⟨_, _, _, rfl, fun k ls hl => row _ _ ls (k ls hl)⟩
  · cases hs
theorem s_du1 (row : ∀ (v : Value) (rest : List Value) ls, v.category = 1 → Wf (F0 m pc' ls (v :: v :: rest)) → Wf (F0 m pc ls (v :: rest))) (hs : du1 pc' lo st h = some r) : SimP Wf m b B pc lo st h r := by
  unfold du1 at hs
  split at hs
  · split at hs
    · next hv =>
      cases hs
      exact ⟨_, _, _, rfl, fun k ls hl => row _ _ ls (by rw [up_cat]; exact hv) (k ls hl)⟩
    · cases hs
  · cases hs
theorem s_po1 (row : ∀ (v : Value) (rest : List Value) ls, v.category = 1 → Wf (F0 m pc' ls rest) → Wf (F0 m pc ls (v :: rest))) (hs : po1 pc' lo st h = some r) : SimP Wf m b B pc lo st h r := by
  unfold po1 at hs
  split at hs
  · split at hs
    · next hv =>
      cases hs
      exact ⟨_, _, _, rfl, fun k ls hl => row _ _ ls (by rw [up_cat]; exact hv) (k ls hl)⟩
    · cases hs
  · cases hs
theorem s_dux1 (row : ∀ (v w : Value) (rest : List Value) ls, v.category = 1 → w.category = 1 → Wf (F0 m pc' ls (v :: w :: v :: rest)) → Wf (F0 m pc ls (v :: w :: rest))) (hs : dux1 pc' lo st h = some r) : SimP Wf m b B pc lo st h r := by
  unfold dux1 at hs
  split at hs
  · split at hs
    · next hv =>
      cases hs
      exact ⟨_, _, _, rfl, fun k ls hl => row _ _ _ ls (by rw [up_cat]; exact hv.1) (by rw [up_cat]; exact hv.2) (k ls hl)⟩
    · cases hs
  · cases hs
theorem s_dux2 (row : ∀ (v w u : Value) (rest : List Value) ls, v.category = 1 → w.category = 1 → u.category = 1 → Wf (F0 m pc' ls (v :: w :: u :: v :: rest)) → Wf (F0 m pc ls (v :: w :: u :: rest))) (hs : dux2 pc' lo st h = some r) : SimP Wf m b B pc lo st h r := by
  unfold dux2 at hs
  split at hs
  · split at hs
    · next hv =>
      cases hs
      exact ⟨_, _, _, rfl, fun k ls hl => row _ _ _ _ ls (by rw [up_cat]; exact hv.1) (by rw [up_cat]; exact hv.2.1) (by rw [up_cat]; exact hv.2.2) (k ls hl)⟩
    · cases hs
  · cases hs
theorem s_du2 (row : ∀ (v w : Value) (rest : List Value) ls, v.category = 1 → w.category = 1 → Wf (F0 m pc' ls (v :: w :: v :: w :: rest)) → Wf (F0 m pc ls (v :: w :: rest))) (hs : du2 pc' lo st h = some r) : SimP Wf m b B pc lo st h r := by
  unfold du2 at hs
  split at hs
  · split at hs
    · next hv =>
      cases hs
      exact ⟨_, _, _, rfl, fun k ls hl => row _ _ _ ls (by rw [up_cat]; exact hv.1) (by rw [up_cat]; exact hv.2) (k ls hl)⟩
    · cases hs
  · cases hs
theorem s_br1 {k : ClassFile.Cond} {off : Int} (row : ∀ (x : Int32) (rest : List Value) ls (tgt : Nat), (pc : Int) + off = (tgt : Int) → (cb k x 0 = true → Wf (F0 m tgt ls rest)) → (¬ cb k x 0 = true → Wf (F0 m (pc + 3) ls rest)) → Wf (F0 m pc ls (.int x :: rest))) (hs : br1 k pc off lo st h = some r) : SimP Wf m b B pc lo st h r := by
  unfold br1 at hs
  split at hs
  · split at hs
    · next hn =>
      have ht := (Int.toNat_of_nonneg hn).symm
      split at hs
      · next hc =>
        cases hs
        exact ⟨_, _, _, rfl, fun kk ls hl => row _ _ ls _ ht (fun _ => kk ls hl) (fun h => absurd hc h)⟩
      · next hc =>
        cases hs
        exact ⟨_, _, _, rfl, fun kk ls hl => row _ _ ls _ ht (fun h => absurd h hc) (fun _ => kk ls hl)⟩
    · cases hs
  · cases hs
theorem s_br2 {k : ClassFile.Cond} {off : Int} (row : ∀ (x y : Int32) (rest : List Value) ls (tgt : Nat), (pc : Int) + off = (tgt : Int) → (cb k x y = true → Wf (F0 m tgt ls rest)) → (¬ cb k x y = true → Wf (F0 m (pc + 3) ls rest)) → Wf (F0 m pc ls (.int y :: .int x :: rest))) (hs : br2 k pc off lo st h = some r) : SimP Wf m b B pc lo st h r := by
  unfold br2 at hs
  split at hs
  · split at hs
    · next hn =>
      have ht := (Int.toNat_of_nonneg hn).symm
      split at hs
      · next hc =>
        cases hs
        exact ⟨_, _, _, rfl, fun kk ls hl => row _ _ _ ls _ ht (fun _ => kk ls hl) (fun h => absurd hc h)⟩
      · next hc =>
        cases hs
        exact ⟨_, _, _, rfl, fun kk ls hl => row _ _ _ ls _ ht (fun h => absurd h hc) (fun _ => kk ls hl)⟩
    · cases hs
  · cases hs
theorem s_swL {dflt : Int} {ps : Array (Int × Int)} (row : ∀ (x : Int32) (rest : List Value) ls (tgt : Nat), (ps.toList.zip (ps.toList.drop 1)).all (fun (a, next) => a.1 < next.1) = true → (pc : Int) + Op.lookupswitch.offset ps.toList dflt x.toInt = (tgt : Int) → Wf (F0 m tgt ls rest) → Wf (F0 m pc ls (.int x :: rest))) (hs : swL dflt ps pc lo st h = some r) : SimP Wf m b B pc lo st h r := by
  unfold swL at hs
  split at hs
  · split at hs
    · next hp =>
      unfold jm at hs
      split at hs
      · next hn =>
        cases hs
        exact ⟨_, _, _, rfl, fun kk ls hl => row _ _ ls _ hp (Int.toNat_of_nonneg hn).symm (kk ls hl)⟩
      · cases hs
    · cases hs
  · cases hs
theorem s_swT {dflt lw hi : Int} {offs : Array Int} (rowO : ∀ (x : Int32) (rest : List Value) ls (tgt : Nat), (x.toInt < lw ∨ hi < x.toInt) → (pc : Int) + dflt = (tgt : Int) → Wf (F0 m tgt ls rest) → Wf (F0 m pc ls (.int x :: rest)))
    (rowI : ∀ (x : Int32) (off : Int) (rest : List Value) ls (tgt : Nat), ¬ x.toInt < lw → ¬ hi < x.toInt → offs[(x.toInt - lw).toNat]? = some off → (pc : Int) + off = (tgt : Int) → Wf (F0 m tgt ls rest) → Wf (F0 m pc ls (.int x :: rest))) (hs : swT dflt lw hi offs pc lo st h = some r) : SimP Wf m b B pc lo st h r := by
  unfold swT at hs
  split at hs
  · split at hs
    · next ho =>
      unfold jm at hs
      split at hs
      · next hn =>
        cases hs
        exact ⟨_, _, _, rfl, fun kk ls hl => rowO _ _ ls _ ho (Int.toNat_of_nonneg hn).symm (kk ls hl)⟩
      · cases hs
    · next ho =>
      split at hs
      · next off hoff =>
        unfold jm at hs
        split at hs
        · next hn =>
          cases hs
          exact ⟨_, _, _, rfl, fun kk ls hl => rowI _ _ _ ls _ (fun h => ho (Or.inl h)) (fun h => ho (Or.inr h)) hoff (Int.toNat_of_nonneg hn).symm (kk ls hl)⟩
        · cases hs
      · cases hs
  · cases hs
end SP
section SPW
variable {p : Program} {l : Launch} {e : Env} {R : Room} {s : State} {m : MethodId} {args : Array Value} {below : List Frame} {meth : Method} {c : Code} {H : Heap} {locs : List Loc} {cells slots : Nat} {Q : State → Prop}
variable {cc : ByteArray} {b B pc : Nat} {lo : ML} {st : List Value} {h : MH} {r : SR} {i : Instr}
set_option maxHeartbeats 4000000 in
theorem sim_P (hx : p.tables.exec = Jvm.exec) (hb : c.code = cc) (hd : dec cc pc i) (hs : stpP i pc lo st h = some r) : SimP (fun g => W p l e R s m args below meth c H locs cells slots Q g) m b B pc lo st h r := by
  obtain ⟨len, hdg, hl⟩ := hd
  unfold stpP at hs
  split at hs
  · have e1 : len = 1 := hl rfl
    subst e1; exact s_nx (fun ls k => lv_iconst hx hb hdg rfl k) hs
  · have e1 : len = 2 := hl rfl
    subst e1; exact s_nx (fun ls k => lv_bipush hx hb hdg rfl k) hs
  · have e1 : len = 3 := hl rfl
    subst e1; exact s_nx (fun ls k => lv_sipush hx hb hdg rfl k) hs
  · have e1 : len = 1 := hl rfl
    subst e1; exact s_nx (fun ls k => lv_lconst hx hb hdg rfl k) hs
  · have e1 : len = 1 := hl rfl
    subst e1; exact s_ldI (fun x ls hq k => lv_iload_n hx hb hdg rfl hq k) hs
  · have e1 : len = 2 := hl rfl
    subst e1; exact s_ldI (fun x ls hq k => lv_iload hx hb hdg hq k) hs
  · have e1 : len = 1 := hl rfl
    subst e1; exact s_ldJ (fun x ls hq k => lv_lload_n hx hb hdg rfl hq k) hs
  · have e1 : len = 2 := hl rfl
    subst e1; exact s_ldJ (fun x ls hq k => lv_lload hx hb hdg hq k) hs
  · have e1 : len = 1 := hl rfl
    subst e1; exact s_ldA (fun x ls hq k => lv_aload_n hx hb hdg rfl hq k) hs
  · have e1 : len = 2 := hl rfl
    subst e1; exact s_ldA (fun x ls hq k => lv_aload hx hb hdg hq k) hs
  · have e1 : len = 1 := hl rfl
    subst e1; exact s_stI (fun x rest ls lv hv hk k => lv_istore_n hx hb hdg rfl hv hk rfl k) hs
  · have e1 : len = 2 := hl rfl
    subst e1; exact s_stI (fun x rest ls lv hv hk k => lv_istore hx hb hdg hv hk rfl k) hs
  · have e1 : len = 1 := hl rfl
    subst e1; exact s_stJ (fun x rest ls lv hv hk k => lv_lstore_n hx hb hdg rfl hv hk rfl k) hs
  · have e1 : len = 2 := hl rfl
    subst e1; exact s_stJ (fun x rest ls lv hv hk k => lv_lstore hx hb hdg hv hk rfl k) hs
  · have e1 : len = 1 := hl rfl
    subst e1; exact s_stA (fun x rest ls lv hv hk k => lv_astore_n hx hb hdg rfl hv hk rfl k) hs
  · have e1 : len = 2 := hl rfl
    subst e1; exact s_stA (fun x rest ls lv hv hk k => lv_astore hx hb hdg hv hk rfl k) hs
  · have e1 : len = 3 := hl rfl
    subst e1; exact s_inc (fun x ls lv j hv hj hk k => lv_iinc hx hb hdg hv hj rfl hk rfl k) hs
  · have e1 : len = 1 := hl rfl
    subst e1; exact s_ar2 (fun x y rest ls k => lv_iadd hx hb hdg k) hs
  · have e1 : len = 1 := hl rfl
    subst e1; exact s_ar2 (fun x y rest ls k => lv_isub hx hb hdg k) hs
  · have e1 : len = 1 := hl rfl
    subst e1; exact s_ar2 (fun x y rest ls k => lv_imul hx hb hdg k) hs
  · have e1 : len = 1 := hl rfl
    subst e1; exact s_ar2 (fun x y rest ls k => lv_iand hx hb hdg k) hs
  · have e1 : len = 1 := hl rfl
    subst e1; exact s_ar2 (fun x y rest ls k => lv_ior hx hb hdg k) hs
  · have e1 : len = 1 := hl rfl
    subst e1; exact s_ar2 (fun x y rest ls k => lv_ixor hx hb hdg k) hs
  · have e1 : len = 1 := hl rfl
    subst e1; exact s_ar2 (fun x y rest ls k => lv_ishl hx hb hdg k) hs
  · have e1 : len = 1 := hl rfl
    subst e1; exact s_ar2 (fun x y rest ls k => lv_ishr hx hb hdg k) hs
  · have e1 : len = 1 := hl rfl
    subst e1; exact s_ar2 (fun x y rest ls k => lv_iushr hx hb hdg rfl k) hs
  · have e1 : len = 1 := hl rfl
    subst e1; exact s_dv (fun x y rest ls hy k => lv_idiv hx hb hdg hy k) hs
  · have e1 : len = 1 := hl rfl
    subst e1; exact s_dv (fun x y rest ls hy k => lv_irem hx hb hdg hy k) hs
  · have e1 : len = 1 := hl rfl
    subst e1; exact s_ar1 (fun x rest ls k => lv_ineg hx hb hdg k) hs
  · have e1 : len = 1 := hl rfl
    subst e1; exact s_al2 (fun x y rest ls k => lv_ladd hx hb hdg k) hs
  · have e1 : len = 1 := hl rfl
    subst e1; exact s_al2 (fun x y rest ls k => lv_lsub hx hb hdg k) hs
  · have e1 : len = 1 := hl rfl
    subst e1; exact s_al2 (fun x y rest ls k => lv_lmul hx hb hdg k) hs
  · have e1 : len = 1 := hl rfl
    subst e1; exact s_al2 (fun x y rest ls k => lv_land hx hb hdg k) hs
  · have e1 : len = 1 := hl rfl
    subst e1; exact s_al2 (fun x y rest ls k => lv_lor hx hb hdg k) hs
  · have e1 : len = 1 := hl rfl
    subst e1; exact s_al2 (fun x y rest ls k => lv_lxor hx hb hdg k) hs
  · have e1 : len = 1 := hl rfl
    subst e1; exact s_als (fun x y rest ls k => lv_lushr hx hb hdg rfl k) hs
  · have e1 : len = 1 := hl rfl
    subst e1; exact s_als (fun x y rest ls k => lv_lshl hx hb hdg rfl k) hs
  · have e1 : len = 1 := hl rfl
    subst e1; exact s_als (fun x y rest ls k => lv_lshr hx hb hdg rfl k) hs
  · have e1 : len = 1 := hl rfl
    subst e1; exact s_lcmp (fun x y rest ls k => W.lcmp hx hb hdg k) hs
  · have e1 : len = 1 := hl rfl
    subst e1; exact s_i2l (fun x rest ls k => lv_i2l hx hb hdg rfl k) hs
  · have e1 : len = 1 := hl rfl
    subst e1; exact s_l2i (fun x rest ls k => lv_l2i hx hb hdg rfl k) hs
  · have e1 : len = 1 := hl rfl
    subst e1; exact s_du1 (fun v rest ls hv k => lv_dup hx hb hdg hv k) hs
  · have e1 : len = 1 := hl rfl
    subst e1; exact s_dux1 (fun v w rest ls hv hw k => lv_dup_x1 hx hb hdg hv hw k) hs
  · have e1 : len = 1 := hl rfl
    subst e1; exact s_dux2 (fun v w u rest ls hv hw hu k => lv_dup_x2 hx hb hdg hv hw hu k) hs
  · have e1 : len = 1 := hl rfl
    subst e1; exact s_du2 (fun v w rest ls hv hw k => lv_dup2_11 hx hb hdg hv hw k) hs
  · have e1 : len = 1 := hl rfl
    subst e1; exact s_po1 (fun v rest ls hv k => lv_pop hx hb hdg hv k) hs
  · have e1 : len = 3 := hl rfl
    subst e1; exact s_jm (fun ls tgt ht k => lv_goto hx hb hdg ht k) hs
  · next k off =>
    have e1 : len = 3 := hl rfl
    subst e1
    refine s_br1 (fun x rest ls tgt ht kt kf => ?_) hs
    cases k with
    | eq => exact lv_if_eq hx hb hdg ht (fun q => kt (decide_eq_true q)) (fun q => kf (fun z => q (of_decide_eq_true z)))
    | ne => exact lv_if_ne hx hb hdg ht (fun q => kt (decide_eq_true q)) (fun q => kf (fun z => (of_decide_eq_true z) q))
    | lt => exact lv_if_lt hx hb hdg ht (fun q => kt (decide_eq_true q)) (fun q => kf (fun z => q (of_decide_eq_true z)))
    | ge => exact lv_if_ge hx hb hdg ht (fun q => kt (decide_eq_true q)) (fun q => kf (fun z => q (of_decide_eq_true z)))
    | gt => exact lv_if_gt hx hb hdg ht (fun q => kt (decide_eq_true q)) (fun q => kf (fun z => q (of_decide_eq_true z)))
    | le => exact lv_if_le hx hb hdg ht (fun q => kt (decide_eq_true q)) (fun q => kf (fun z => q (of_decide_eq_true z)))
  · next k off =>
    have e1 : len = 3 := hl rfl
    subst e1
    refine s_br2 (fun x y rest ls tgt ht kt kf => ?_) hs
    cases k with
    | eq => exact lv_icmp_eq hx hb hdg ht (fun q => kt (decide_eq_true q)) (fun q => kf (fun z => q (of_decide_eq_true z)))
    | ne => exact lv_icmp_ne hx hb hdg ht (fun q => kt (decide_eq_true q)) (fun q => kf (fun z => (of_decide_eq_true z) q))
    | lt => exact lv_icmp_lt hx hb hdg ht (fun q => kt (decide_eq_true q)) (fun q => kf (fun z => q (of_decide_eq_true z)))
    | ge => exact lv_icmp_ge hx hb hdg ht (fun q => kt (decide_eq_true q)) (fun q => kf (fun z => q (of_decide_eq_true z)))
    | gt => exact lv_icmp_gt hx hb hdg ht (fun q => kt (decide_eq_true q)) (fun q => kf (fun z => q (of_decide_eq_true z)))
    | le => exact lv_icmp_le hx hb hdg ht (fun q => kt (decide_eq_true q)) (fun q => kf (fun z => q (of_decide_eq_true z)))
  · exact s_swL (fun x rest ls tgt hp ht k => lv_lookup hx hb hdg hp rfl ht k) hs
  · exact s_swT (fun x rest ls tgt ho ht k => lv_tableOut hx hb hdg ho ht k) (fun x off rest ls tgt h1 h2 ho ht k => lv_tableIn hx hb hdg h1 h2 ho ht k) hs
  · cases hs
end SPW
end
section
/-! The cells: how the two heaps stand beside each other, and the steps that read and write cells. -/
def RH (b B : Nat) (dC : Nat → ClassId) (dI : Nat → Nat → Nat) (dA : Nat → ClassId) (cl : List vw_C) (SL : List Nat) (s : State) (h : MH) (H : Heap) : Prop :=
  (∀ a t x, h.2.2 a = some (.inl (t, x)) → t ∈ SL) ∧ b < B ∧ 1 ≤ h.1 ∧ H.size + 1 = B + h.1 ∧ (∀ a c, h.2.2 a = some c → a < h.1) ∧ (∀ a c, h.2.2 (a + 1) = some c → va_at (dC, dI) cl (B + a, cv b B dA c) H) ∧ (∀ c, h.2.2 0 = some c → ∃ n f, c = .inl (0, n, .inl f) ∧ va_X b n f s H)
theorem up_off {α : Type} {f : Nat → α} {k j : Nat} {v x : α} (h : j ≠ k) (e : va_up f k v j = x) : f j = x := (va_up_ne f v h).symm.trans e
section RHS
variable {b B : Nat} {dC : Nat → ClassId} {dI : Nat → Nat → Nat} {dA : Nat → ClassId} {cl : List vw_C} {SL : List Nat} {s U : State} {h : MH} {H H1 : Heap}
theorem RH.moved (hvm : s.vm.Alike U.vm) (hR : RH b B dC dI dA cl SL s h H) : RH b B dC dI dA cl SL U h H := by
  obtain ⟨h0, h1, h2, h3, h4, h5, h6⟩ := hR
  refine ⟨h0, h1, h2, h3, h4, h5, fun c hc => ?_⟩
  obtain ⟨n, f, e, hX⟩ := h6 c hc
  exact ⟨n, f, e, hX.moved hvm⟩
theorem RH.set {k : Nat} {c c' : mC} (hR : RH b B dC dI dA cl SL s h H) (hc : h.2.2 (k + 1) = some c) (he : va_at (dC, dI) cl (B + k, cv b B dA c') H1) (z : H1.size = H.size) (oq : ∀ q : Nat, q ≠ B + k → H1[q]? = H[q]?) (hs : ∀ t x, c' = .inl (t, x) → t ∈ SL) : RH b B dC dI dA cl SL s (h.1, h.2.1, va_up h.2.2 (k + 1) (some c')) H1 := by
  obtain ⟨h0, h1, h2, h3, h4, h5, h6⟩ := hR
  refine ⟨fun a t x ha => ?_, h1, h2, by rw [z]; exact h3, fun a c0 ha => ?_, fun a c0 ha => ?_, fun c0 ha => ?_⟩
  · by_cases hak : a = k + 1
    · subst hak
      exact hs t x (Option.some.inj ((va_up_self _ _ _).symm.trans ha))
    · exact h0 _ _ _ ((va_up_ne _ _ hak).symm.trans ha)
  · by_cases hak : a = k + 1
    · subst hak; exact h4 _ _ hc
    · exact h4 _ _ ((va_up_ne _ _ hak).symm.trans ha)
  · by_cases hak : a = k
    · subst hak
      have : c' = c0 := Option.some.inj ((va_up_self _ _ _).symm.trans ha)
      rw [← this]; exact he
    · have hne : a + 1 ≠ k + 1 := by omega
      exact (h5 _ _ ((va_up_ne _ _ hne).symm.trans ha)).kept (oq _ (by show B + a ≠ B + k; omega))
  · obtain ⟨n, f, e, hX⟩ := h6 _ (up_off (k := k + 1) (v := some c') (by omega) ha)
    exact ⟨n, f, e, hX.kept (oq b (by omega))⟩
theorem RH.push {c' : mC} {n : Nat} (hR : RH b B dC dI dA cl SL s h H) (he : va_at (dC, dI) cl (H.size, cv b B dA c') H1) (z : H1.size = H.size + 1) (oq : ∀ q : Nat, q < H.size → H1[q]? = H[q]?) (hs : ∀ t x, c' = .inl (t, x) → t ∈ SL) : RH b B dC dI dA cl SL s (h.1 + 1, h.2.1 + n, va_up h.2.2 h.1 (some c')) H1 := by
  obtain ⟨h0, h1, h2, h3, h4, h5, h6⟩ := hR
  refine ⟨fun a t x ha => ?_, h1, Nat.le_add_left _ _, by rw [z]; show H.size + 1 + 1 = B + (h.1 + 1); omega, fun a c0 ha => ?_, fun a c0 ha => ?_, fun c0 ha => ?_⟩
  · by_cases hak : a = h.1
    · have ha2 : va_up h.2.2 h.1 (some c') a = some (.inl (t, x)) := ha
      rw [hak, va_up_self] at ha2
      exact hs t x (Option.some.inj ha2)
    · exact h0 _ _ _ ((va_up_ne _ _ hak).symm.trans ha)
  · show a < h.1 + 1
    by_cases hak : a = h.1
    · omega
    · have := h4 _ _ ((va_up_ne _ _ hak).symm.trans ha)
      omega
  · by_cases hak : a + 1 = h.1
    · have e1 : c' = c0 := by
        have ha2 : va_up h.2.2 h.1 (some c') (a + 1) = some c0 := ha
        rw [hak, va_up_self] at ha2
        exact Option.some.inj ha2
      have e2 : B + a = H.size := by omega
      rw [← e1, e2]; exact he
    · have ha2 := (va_up_ne _ _ hak).symm.trans ha
      have hlt := h4 _ _ ha2
      exact (h5 _ _ ha2).kept (oq _ (by show B + a < H.size; omega))
  · obtain ⟨n, f, e, hX⟩ := h6 _ (up_off (k := h.1) (v := some c') (by omega) ha)
    exact ⟨n, f, e, hX.kept (oq b (by omega))⟩
theorem RH.nz {a ci : Nat} {fs : List Value} (hR : RH b B dC dI dA cl SL s h H) (ha : h.2.2 a = some (.inr (ci, fs))) : ∃ k, a = k + 1 ∧ va_at (dC, dI) cl (B + k, .inr (ci, fs.map (up b B))) H := by
  obtain ⟨h0, h1, h2, h3, h4, h5, h6⟩ := hR
  cases a with
  | zero =>
    obtain ⟨n, f, e, -⟩ := h6 _ ha
    cases e
  | succ k => exact ⟨k, rfl, h5 k _ ha⟩
/-- where the next cell comes -/
theorem RH.next (hR : RH b B dC dI dA cl SL s h H) : ad b B h.1 = H.size := by
  obtain ⟨-, h1, h2, h3, -⟩ := hR
  generalize h.1 = n at h2 h3
  cases n with
  | zero => omega
  | succ k => show B + k = H.size; omega
end RHS
theorem fputh_size {h h' : MH} {a ci k : Nat} {ty : FieldType} {v : Value} (hv : fputh h a ci k ty v = some h') : h'.1 = h.1 ∧ h'.2.1 = h.2.1 := by
  unfold fputh at hv
  split at hv
  · split at hv
    · cases hv; exact ⟨rfl, rfl⟩
    · cases hv
  · cases hv
theorem aputi_size {h h' : MH} {t a : Nat} {i x : Int32} (hv : aputi h t a i x = some h') : h'.1 = h.1 ∧ h'.2.1 = h.2.1 := by
  unfold aputi at hv
  split at hv
  · split at hv
    · cases hv; exact ⟨rfl, rfl⟩
    · cases hv
  · cases hv
theorem aputl_size {h h' : MH} {t a : Nat} {i : Int32} {x : Int64} (hv : aputl h t a i x = some h') : h'.1 = h.1 ∧ h'.2.1 = h.2.1 := by
  unfold aputl at hv
  split at hv
  · split at hv
    · cases hv; exact ⟨rfl, rfl⟩
    · cases hv
  · cases hv
theorem aputr_size {h h' : MH} {a v : Nat} {i : Int32} (hv : aputr h a i v = some h') : h'.1 = h.1 ∧ h'.2.1 = h.2.1 := by
  unfold aputr at hv
  split at hv
  · split at hv
    · cases hv; exact ⟨rfl, rfl⟩
    · cases hv
  · cases hv
theorem va_P.one {D : va_G} {cl : List vw_C} {q : Nat × va_E} {H : Heap} (h : va_at D cl q H) : va_P D cl [q] H := by
  intro k x hx
  match k, hx with
  | 0, hx => cases hx; exact h
  | k + 1, hx => simp at hx
section HW
variable {p : Program} {l : Launch} {e : Env} {R : Room} {s : State} {m : MethodId} {args : Array Value} {below : List Frame} {meth : Method} {c : Code} {H : Heap} {locs : List Loc} {cells slots : Nat} {Q : State → Prop}
variable {cc : ByteArray} {pc : Nat} {ls : Array Slot} {rest : List Value} {b B : Nat} {dC : Nat → ClassId} {dI : Nat → Nat → Nat} {dA : Nat → ClassId} {cl : List vw_C} {SL : List Nat} {h : MH} {Ts : List Cond}
/-- a class's table: its words are there, its types, its names apart -/
def clOK (cl : List vw_C) (Ts : List Cond) (tyF : Nat → Nat → FieldType) (ci : Nat) (C : String) (T : u_T) (N : Nat) : Prop :=
  cl[ci]? = some (C, T, N) ∧ (∀ w ∈ u_ws C T N, w ∈ Ts) ∧ (∀ k, k < N → parseFieldDescriptor (T k).2.2.1 = some (tyF ci k)) ∧ (∀ a, a < N → ∀ b, b < N → a ≠ b → (T a).2.1 ≠ (T b).2.1)
theorem w_get (hx : p.tables.exec = Jvm.exec) (hb : c.code = cc) (hts : ∀ w ∈ Ts, w.before args s = true) (hK : va_K (dC, dI) cl [] s) (hR : RH b B dC dI dA cl SL s h H) {tyF : Nat → Nat → FieldType} {own host C : String} {T : u_T} {N ci k a index : Nat} {v : Value} (hO : clOK cl Ts tyF ci C T N) (hk : k < N) (hown : s.vm.findClass own = some m.cls)
    (hlink : (Cond.fieldLink own index (T k).1 (T k).2.1 (T k).2.2.1).before args s = true ∨ (Cond.fieldLinkNest own index (T k).1 (T k).2.1 (T k).2.2.1 host).before args s = true) (hv : fgetv h a ci k = some v) (hdg : decode cc pc = .ok (.getfield index, 3))
    (kk : W p l e R s m args below meth c H locs cells slots Q (F0 m (pc + 3) ls (up b B v :: rest))) : W p l e R s m args below meth c H locs cells slots Q (F0 m pc ls (.ref (ad b B a) :: rest)) := by
  unfold fgetv at hv
  split at hv
  · next c0 fs hc0 =>
    split at hv
    · next hci =>
      subst hci
      obtain ⟨q, rfl, hat⟩ := hR.nz hc0
      have hvm : (fs.map (up b B))[k]? = some (up b B v) := by rw [List.getElem?_map, hv]; rfl
      rcases hlink with hlink | hlink
      · exact va_get (D := (dC, dI)) (ci := c0) (C := C) (T := T) (N := N) hx hb hts hO.2.1 hown hK (va_P.one hat) 0 rfl hO.1 k hk hlink (fun _ h9 => h9) hvm hdg kk
      · exact va_getN (D := (dC, dI)) (ci := c0) (C := C) (T := T) (N := N) hx hb hts hO.2.1 hown hK (va_P.one hat) 0 rfl hO.1 k hk hlink (fun _ h9 => h9) hvm hdg kk
    · cases hv
  · cases hv
theorem w_put (hx : p.tables.exec = Jvm.exec) (hb : c.code = cc) (hts : ∀ w ∈ Ts, w.before args s = true) (hK : va_K (dC, dI) cl [] s) (hR : RH b B dC dI dA cl SL s h H) (hS : va_S (fun q => B ≤ q) s.heap H locs) {tyF : Nat → Nat → FieldType} {own host C : String} {T : u_T} {N ci k a index : Nat} {v : Value} {h' : MH} (hO : clOK cl Ts tyF ci C T N) (hk : k < N) (hown : s.vm.findClass own = some m.cls)
    (hlink : ((T k).2.2.2 = false ∧ ((Cond.fieldLink own index (T k).1 (T k).2.1 (T k).2.2.1).before args s = true ∨ (Cond.fieldLinkNest own index (T k).1 (T k).2.1 (T k).2.2.1 host).before args s = true)) ∨ ((T k).2.2.2 = true ∧ meth.name = "<init>" ∧ (T k).1 = own ∧ (Cond.fieldLink own index (T k).1 (T k).2.1 (T k).2.2.1).before args s = true))
    (hv : fputh h a ci k (tyF ci k) v = some h') (hdg : decode cc pc = .ok (.putfield index, 3))
    (kk : ∀ (H1 : Heap) (locs1 : List Loc), RH b B dC dI dA cl SL s h' H1 → va_S (fun q => B ≤ q) s.heap H1 locs1 → W p l e R s m args below meth c H1 locs1 cells slots Q (F0 m (pc + 3) ls rest)) : W p l e R s m args below meth c H locs cells slots Q (F0 m pc ls (up b B v :: .ref (ad b B a) :: rest)) := by
  unfold fputh at hv
  split at hv
  · next c0 fs hc0 =>
    split at hv
    · next hci =>
      cases hv
      obtain ⟨rfl, hl, hn, hf⟩ := hci
      obtain ⟨q, rfl, hat⟩ := hR.nz hc0
      obtain ⟨hc, hin, hty, hnm⟩ := hO
      have hap := va_apart (own := own) (D := (dC, dI)) hts hin (tyF c0) hty hnm hK hc
      obtain ⟨r, g1, cell, q1, q2, q3, q4⟩ := hat
      have hr : r = (C, T, N) := Option.some.inj (g1.symm.trans hc)
      subst hr
      obtain ⟨hSl, hfc, kC, hkC, hkind⟩ := hK.1 c0 _ hc
      obtain ⟨cf, kf, fi, f, hi, hsl⟩ := hSl k hk
      have hlay := hts _ (hin _ (u_in_lay hk))
      unfold u_lay at hlay
      have hst := (u_facts hfc hkC (u_lays hts hin hk) hi).1
      have hn' : narrow (tyF c0 k) (up b B v) = up b B v := up_narrow hn
      have hf' : fits (tyF c0 k) (up b B v) = true := up_fits hf
      have fin : ∀ (H' : Heap) (locs1 : List Loc), H'[B + q]? = some (cell.setSlot f.slot (up b B v)) → H'.size = H.size → (∀ x, x ≠ B + q → H'[x]? = H[x]?) → RH b B dC dI dA cl SL s (h.1, h.2.1, va_up h.2.2 (q + 1) (some (.inr (c0, fs.set k v)))) H' := by
        intro H' _ e1 e2 e3
        rw [hsl] at e1
        refine hR.set hc0 ⟨_, hc, ?_⟩ e2 e3 (fun _ _ h9 => by cases h9)
        refine t_OB.to (V := updV (vp_V (fs.map (up b B))) k (up b B v)) ⟨_, e1, q2, q3, t_set q4 hap hk _⟩ (fun j _ => ?_)
        show updV (vp_V (fs.map (up b B))) k (up b B v) j = vp_V ((fs.set k v).map (up b B)) j
        rw [List.map_set]
        exact vp_updV_set (by rw [List.length_map]; exact hl) _ j
      have hSp : ∀ (H' : Heap), H'.size = H.size → (∀ x, x ≠ B + q → H'[x]? = H[x]?) → va_S (fun q => B ≤ q) s.heap H' (locs ++ [⟨B + q, f.slot⟩]) := fun H' e2 e3 => hS.put e2 e3 (Nat.le_add_right B q)
      rcases hlink with ⟨hnf, hlink⟩ | ⟨hfi, hin2, hdecl, hlink⟩
      · rw [if_neg (by rw [hnf]; decide)] at hlay
        have h6 := u_store hfc hkC hkind hlay hi (hty k hk) hn' hf'
        rcases hlink with hlink | hlink
        · exact W.putK hx hb (f := f) ⟨hown, hlink, ⟨_, _, _, hi⟩, hst⟩ (by rw [q2]; exact h6) q1 q3 (by rw [hsl]; exact k2_hasslot (q4 k hk)) rfl rfl hdg fun H' e1 e2 e3 => kk H' _ (fin H' [] e1 e2 e3) (hSp H' e2 e3)
        · exact va_WputK hx hb (f := f) hown hlink hi hst (by rw [q2]; exact h6) q1 q3 (by rw [hsl]; exact k2_hasslot (q4 k hk)) rfl rfl hdg fun H' e1 e2 e3 => kk H' _ (fin H' [] e1 e2 e3) (hSp H' e2 e3)
      · rw [if_pos hfi] at hlay
        have hcf : m.cls = cf := by
          obtain ⟨_, _, c', _, _, _, -, -, hf', -, -, -, hown2, -⟩ := Cond.laysFinal_spec hlay
          have e1 : c' = cf := by have := hi.symm.trans hf'; simp at this; exact this.1.symm
          rw [hdecl] at hown2
          rw [← e1]; exact Option.some.inj (hown.symm.trans hown2)
        have h6 := u_fits hfc hkC hkind (Or.inr hlay) hi (hty k hk) hn' hf'
        exact W.putFinK hx hb hown hlink hi hst hcf hin2 (by rw [q2]; exact h6) q1 q3 (by rw [hsl]; exact k2_hasslot (q4 k hk)) rfl rfl hdg fun H' e1 e2 e3 => kk H' _ (fin H' [] e1 e2 e3) (hSp H' e2 e3)
    · cases hv
  · cases hv
theorem w_iald (hx : p.tables.exec = Jvm.exec) (hb : c.code = cc) (hR : RH b B dC dI dA cl SL s h H) (hA : ArrOfT s (dA 0) .int) {a : Nat} {i x : Int32} (hv : ageti h 0 a i = some x) (hdg : decode cc pc = .ok (.iaload, 1))
    (kk : W p l e R s m args below meth c H locs cells slots Q (F0 m (pc + 1) ls (.int x :: rest))) : W p l e R s m args below meth c H locs cells slots Q (F0 m pc ls (.int i :: .ref (ad b B a) :: rest)) := by
  unfold ageti at hv
  split at hv
  · next t n f hc =>
    split at hv
    · next hci =>
      obtain ⟨rfl, hin⟩ := hci
      cases hv
      have hlt : i.toNatClampNeg < n := Nat.not_le.mp fun q => hin (Or.inr q)
      cases a with
      | zero =>
        obtain ⟨n', f', e, scr, h1, h2, h3, h4, h5⟩ := hR.2.2.2.2.2.2 _ hc
        cases e
        exact W.iald (v := .int (f i.toNatClampNeg)) hx hb h1 h2 h3 (by rw [h4]; exact hin) (h5 _ hlt) rfl rfl hdg kk
      | succ k =>
        have hat : H[B + k]? = some (arrV (dA 0) n (fun j => .int (f j))) := hR.2.2.2.2.2.1 k _ hc
        exact W.iald (v := .int (f i.toNatClampNeg)) hx hb hat (hA n _) (fun q => by cases q) (by rw [arrV_size]; exact hin) (by rw [arrV_read _ _ hlt]) rfl rfl hdg kk
    · cases hv
  · cases hv
theorem w_zald (hx : p.tables.exec = Jvm.exec) (hb : c.code = cc) (hR : RH b B dC dI dA cl SL s h H) (hA : ArrOfT s (dA 1) .boolean) {a : Nat} {i x : Int32} (hv : ageti h 1 a i = some x) (hdg : decode cc pc = .ok (.baload, 1))
    (kk : W p l e R s m args below meth c H locs cells slots Q (F0 m (pc + 1) ls (.int x :: rest))) : W p l e R s m args below meth c H locs cells slots Q (F0 m pc ls (.int i :: .ref (ad b B a) :: rest)) := by
  unfold ageti at hv
  split at hv
  · next t n f hc =>
    split at hv
    · next hci =>
      obtain ⟨rfl, hin⟩ := hci
      cases hv
      have hlt : i.toNatClampNeg < n := Nat.not_le.mp fun q => hin (Or.inr q)
      cases a with
      | zero =>
        obtain ⟨n', f', e, -⟩ := hR.2.2.2.2.2.2 _ hc
        cases e
      | succ k =>
        have hat : H[B + k]? = some (arrV (dA 1) n (fun j => .int (f j))) := hR.2.2.2.2.2.1 k _ hc
        exact W.zald (v := .int (f i.toNatClampNeg)) hx hb hat (hA n _) (fun q => by cases q) (by rw [arrV_size]; exact hin) (by rw [arrV_read _ _ hlt]) rfl rfl hdg kk
    · cases hv
  · cases hv
theorem w_lald (hx : p.tables.exec = Jvm.exec) (hb : c.code = cc) (hR : RH b B dC dI dA cl SL s h H) (hA : ArrOfT s (dA 2) .long) {a : Nat} {i : Int32} {x : Int64} (hv : agetl h 2 a i = some x) (hdg : decode cc pc = .ok (.laload, 1))
    (kk : W p l e R s m args below meth c H locs cells slots Q (F0 m (pc + 1) ls (.long x :: rest))) : W p l e R s m args below meth c H locs cells slots Q (F0 m pc ls (.int i :: .ref (ad b B a) :: rest)) := by
  unfold agetl at hv
  split at hv
  · next t n f hc =>
    split at hv
    · next hci =>
      obtain ⟨rfl, hin⟩ := hci
      cases hv
      have hlt : i.toNatClampNeg < n := Nat.not_le.mp fun q => hin (Or.inr q)
      cases a with
      | zero =>
        obtain ⟨n', f', e, -⟩ := hR.2.2.2.2.2.2 _ hc
        cases e
      | succ k =>
        have hat : H[B + k]? = some (arrV (dA 2) n (fun j => .long (f j))) := hR.2.2.2.2.2.1 k _ hc
        exact W.lald (v := .long (f i.toNatClampNeg)) hx hb hat (hA n _) (fun q => by cases q) (by rw [arrV_size]; exact hin) (by rw [arrV_read _ _ hlt]) rfl rfl hdg kk
    · cases hv
  · cases hv
theorem arrI_upd (cA : ClassId) (n k : Nat) (f : Nat → Int32) (x : Int32) : (arrV cA n (fun j => .int (f j))).setSlot k (.int x) = arrV cA n (fun j => .int (upd f k x j)) := by
  rw [arrV_store]
  congr 1
  funext q
  by_cases hq : q = k
  · subst hq
    simp [updV, upd]
  · simp [updV, upd, hq]
theorem arrL_upd (cA : ClassId) (n k : Nat) (f : Nat → Int64) (x : Int64) : (arrV cA n (fun j => .long (f j))).setSlot k (.long x) = arrV cA n (fun j => .long (vp_updL f k x j)) := by
  rw [arrV_store]
  congr 1
  funext q
  by_cases hq : q = k
  · subst hq
    simp [updV, vp_updL]
  · simp [updV, vp_updL, hq]
theorem w_iast (hx : p.tables.exec = Jvm.exec) (hb : c.code = cc) (hR : RH b B dC dI dA cl SL s h H) (hS : va_S (fun q => B ≤ q) s.heap H locs) (hA : ArrOfT s (dA 0) .int) {a : Nat} {i x : Int32} {h' : MH} (hv : aputi h 0 a i x = some h') (hdg : decode cc pc = .ok (.iastore, 1))
    (kk : ∀ (H1 : Heap) (locs1 : List Loc), RH b B dC dI dA cl SL s h' H1 → va_S (fun q => B ≤ q) s.heap H1 locs1 → W p l e R s m args below meth c H1 locs1 cells slots Q (F0 m (pc + 1) ls rest)) : W p l e R s m args below meth c H locs cells slots Q (F0 m pc ls (.int x :: .int i :: .ref (ad b B a) :: rest)) := by
  unfold aputi at hv
  split at hv
  · next t n f hc =>
    split at hv
    · next hci =>
      obtain ⟨rfl, hin, ha⟩ := hci
      cases hv
      cases a with
      | zero => exact absurd rfl ha
      | succ k =>
        have hat : H[B + k]? = some (arrV (dA 0) n (fun j => .int (f j))) := hR.2.2.2.2.2.1 k _ hc
        refine W.iast hx hb hat (hA n _) (fun q => by cases q) (by rw [arrV_size]; exact hin) rfl rfl hdg fun H1 e z oq => ?_
        rw [arrI_upd] at e
        exact kk H1 _ (hR.set hc e z oq (fun t' x' hx' => by cases hx'; exact hR.1 _ _ _ hc)) (hS.put z oq (Nat.le_add_right B k))
    · cases hv
  · cases hv
theorem w_zast (hx : p.tables.exec = Jvm.exec) (hb : c.code = cc) (hR : RH b B dC dI dA cl SL s h H) (hS : va_S (fun q => B ≤ q) s.heap H locs) (hA : ArrOfT s (dA 1) .boolean) {a : Nat} {i x : Int32} {h' : MH} (hn : narrow .boolean (.int x) = .int x) (hv : aputi h 1 a i x = some h') (hdg : decode cc pc = .ok (.bastore, 1))
    (kk : ∀ (H1 : Heap) (locs1 : List Loc), RH b B dC dI dA cl SL s h' H1 → va_S (fun q => B ≤ q) s.heap H1 locs1 → W p l e R s m args below meth c H1 locs1 cells slots Q (F0 m (pc + 1) ls rest)) : W p l e R s m args below meth c H locs cells slots Q (F0 m pc ls (.int x :: .int i :: .ref (ad b B a) :: rest)) := by
  unfold aputi at hv
  split at hv
  · next t n f hc =>
    split at hv
    · next hci =>
      obtain ⟨rfl, hin, ha⟩ := hci
      cases hv
      cases a with
      | zero => exact absurd rfl ha
      | succ k =>
        have hat : H[B + k]? = some (arrV (dA 1) n (fun j => .int (f j))) := hR.2.2.2.2.2.1 k _ hc
        refine W.zast hx hb hat (hA n _) (fun q => by cases q) (by rw [arrV_size]; exact hin) rfl rfl hdg fun H1 e z oq => ?_
        rw [hn, arrI_upd] at e
        exact kk H1 _ (hR.set hc e z oq (fun t' x' hx' => by cases hx'; exact hR.1 _ _ _ hc)) (hS.put z oq (Nat.le_add_right B k))
    · cases hv
  · cases hv
theorem w_last (hx : p.tables.exec = Jvm.exec) (hb : c.code = cc) (hR : RH b B dC dI dA cl SL s h H) (hS : va_S (fun q => B ≤ q) s.heap H locs) (hA : ArrOfT s (dA 2) .long) {a : Nat} {i : Int32} {x : Int64} {h' : MH} (hv : aputl h 2 a i x = some h') (hdg : decode cc pc = .ok (.lastore, 1))
    (kk : ∀ (H1 : Heap) (locs1 : List Loc), RH b B dC dI dA cl SL s h' H1 → va_S (fun q => B ≤ q) s.heap H1 locs1 → W p l e R s m args below meth c H1 locs1 cells slots Q (F0 m (pc + 1) ls rest)) : W p l e R s m args below meth c H locs cells slots Q (F0 m pc ls (.long x :: .int i :: .ref (ad b B a) :: rest)) := by
  unfold aputl at hv
  split at hv
  · next t n f hc =>
    split at hv
    · next hci =>
      obtain ⟨rfl, hin, ha⟩ := hci
      cases hv
      cases a with
      | zero => exact absurd rfl ha
      | succ k =>
        have hat : H[B + k]? = some (arrV (dA 2) n (fun j => .long (f j))) := hR.2.2.2.2.2.1 k _ hc
        refine W.last hx hb hat (hA n _) (fun q => by cases q) (by rw [arrV_size]; exact hin) rfl rfl hdg fun H1 e z oq => ?_
        rw [arrL_upd] at e
        exact kk H1 _ (hR.set hc e z oq (fun t' x' hx' => by cases hx'; exact hR.1 _ _ _ hc)) (hS.put z oq (Nat.le_add_right B k))
    · cases hv
  · cases hv
theorem w_aald (hx : p.tables.exec = Jvm.exec) (hb : c.code = cc) (hR : RH b B dC dI dA cl SL s h H) (hA : ∀ t, t ∈ SL → 10 ≤ t → ∃ C, ArrOfT s (dA t) (.object C)) {a : Nat} {i : Int32} {x : Option Nat} (hv : agetr h a i = some x) (hdg : decode cc pc = .ok (.aaload, 1))
    (kk : W p l e R s m args below meth c H locs cells slots Q (F0 m (pc + 1) ls (up b B (va_rf x) :: rest))) : W p l e R s m args below meth c H locs cells slots Q (F0 m pc ls (.int i :: .ref (ad b B a) :: rest)) := by
  unfold agetr at hv
  split at hv
  · next t n f hc =>
    split at hv
    · next hci =>
      obtain ⟨ht, hin⟩ := hci
      cases hv
      have hlt : i.toNatClampNeg < n := Nat.not_le.mp fun q => hin (Or.inr q)
      cases a with
      | zero =>
        obtain ⟨n', f', e, -⟩ := hR.2.2.2.2.2.2 _ hc
        cases e
      | succ k =>
        have hat : H[B + k]? = some (arrV (dA t) n (fun j => va_rf ((f j).map (ad b B)))) := hR.2.2.2.2.2.1 k _ hc
        obtain ⟨C, hA⟩ := hA t (hR.1 _ _ _ hc) ht
        rw [← up_rf] at kk
        exact W.aald (v := va_rf ((f i.toNatClampNeg).map (ad b B))) (ty := .object C) hx hb hat (hA n _) rfl (fun q => by cases q) (by rw [arrV_size]; exact hin) (by rw [arrV_read _ _ hlt]) rfl rfl hdg kk
    · cases hv
  · cases hv
theorem w_alen (hx : p.tables.exec = Jvm.exec) (hb : c.code = cc) (hR : RH b B dC dI dA cl SL s h H) (hA : ∀ t, t ∈ SL → ∃ ty, ArrOfT s (dA t) ty) {a : Nat} {x : Int32} (hv : alenv h a = some x) (hdg : decode cc pc = .ok (.arraylength, 1))
    (kk : W p l e R s m args below meth c H locs cells slots Q (F0 m (pc + 1) ls (.int x :: rest))) : W p l e R s m args below meth c H locs cells slots Q (F0 m pc ls (.ref (ad b B a) :: rest)) := by
  unfold alenv at hv
  split at hv
  · next t n x hc =>
    cases hv
    cases a with
    | zero =>
      obtain ⟨n', f', e, scr, h1, h2, h3, h4, h5⟩ := hR.2.2.2.2.2.2 _ hc
      cases e
      exact W.alen (n := Int32.ofNat n) hx hb h1 h2 (by rw [h4] <;> rfl) rfl rfl hdg kk
    | succ k =>
      obtain ⟨ty, hA⟩ := hA t (hR.1 _ _ _ hc)
      have hat : H[B + k]? = some (vp_cell (dA t) (n, cvA b B x)) := hR.2.2.2.2.2.1 k _ hc
      obtain f | f | f | f | f := x
      · exact W.alen (n := Int32.ofNat n) hx hb hat (hA n (fun j => .int (f j))) (by show (arrV _ n _).slots.size.toInt32 = _; rw [arrV_size] <;> rfl) rfl rfl hdg kk
      · exact W.alen (n := Int32.ofNat n) hx hb hat (hA n (fun j => .long (f j))) (by show (arrV _ n _).slots.size.toInt32 = _; rw [arrV_size] <;> rfl) rfl rfl hdg kk
      · exact W.alen (n := Int32.ofNat n) hx hb hat (hA n (fun j => .float (f j))) (by show (arrV _ n _).slots.size.toInt32 = _; rw [arrV_size] <;> rfl) rfl rfl hdg kk
      · exact W.alen (n := Int32.ofNat n) hx hb hat (hA n (fun j => .double (f j))) (by show (arrV _ n _).slots.size.toInt32 = _; rw [arrV_size] <;> rfl) rfl rfl hdg kk
      · exact W.alen (n := Int32.ofNat n) hx hb hat (hA n (fun j => va_rf ((f j).map (ad b B)))) (by show (arrV _ n _).slots.size.toInt32 = _; rw [arrV_size] <;> rfl) rfl rfl hdg kk
  · cases hv
theorem w_aast (hx : p.tables.exec = Jvm.exec) (hb : c.code = cc) (hK : va_K (dC, dI) cl [] s) (hR : RH b B dC dI dA cl SL s h H) (hS : va_S (fun q => B ≤ q) s.heap H locs) (hA : ∀ t r, t ∈ SL → 10 ≤ t → cl[t - 10]? = some r → va_RA s (dA t) (.object r.1)) {a v : Nat} {i : Int32} {h' : MH} (hv : aputr h a i v = some h') (hdg : decode cc pc = .ok (.aastore, 1))
    (kk : ∀ (H1 : Heap) (locs1 : List Loc), RH b B dC dI dA cl SL s h' H1 → va_S (fun q => B ≤ q) s.heap H1 locs1 → W p l e R s m args below meth c H1 locs1 cells slots Q (F0 m (pc + 1) ls rest)) : W p l e R s m args below meth c H locs cells slots Q (F0 m pc ls (.ref (ad b B v) :: .int i :: .ref (ad b B a) :: rest)) := by
  unfold aputr at hv
  split at hv
  · next t n f hc =>
    split at hv
    · next hci =>
      obtain ⟨ht, hcv, hin, ha⟩ := hci
      cases hv
      have hlt : i.toNatClampNeg < n := Nat.not_le.mp fun q => hin (Or.inr q)
      have h0 : ¬ i < 0 := fun q => hin (Or.inl q)
      cases a with
      | zero => exact absurd rfl ha
      | succ k =>
        have hat : H[B + k]? = some (arrV (dA t) n (fun j => va_rf ((f j).map (ad b B)))) := hR.2.2.2.2.2.1 k _ hc
        unfold clsOf at hcv
        split at hcv
        · next c0 vs hcc =>
          cases hcv
          obtain ⟨kv, rfl, r, g1, cellV, g2, g3, g4, -⟩ := hR.nz hcc
          have hcls := (hK.1 _ r g1).2
          obtain ⟨kA, comp, k1, k2, k3, -⟩ := hA t r (hR.1 _ _ _ hc) ht g1
          have hcomp : comp = dC (t - 10) := Option.some.inj (k3.symm.trans hcls.1)
          subst hcomp
          obtain ⟨kC, hkC, -⟩ := hcls.2
          refine W.aast hx hb hat (fun q h => by cases h) (fun h => by cases h) k1 k2 rfl hkC ⟨h0, by rw [arrV_size]; exact hlt⟩ g2 (fun q h => by rw [g4] at h; cases h) (by rw [g3]; exact hkC) (by rw [g3]; exact va_assign hcls) rfl rfl hdg fun H1 e z oq => ?_
          refine kk H1 _ (hR.set hc ?_ z oq (fun t' x' hx' => by cases hx'; exact hR.1 _ _ _ hc)) (hS.put z oq (Nat.le_add_right B k))
          show H1[B + k]? = some (arrV (dA t) n (fun j => va_rf ((va_up f i.toNatClampNeg (some (kv + 1)) j).map (ad b B))))
          rw [e, arrV_store]
          congr 2
          funext q
          by_cases hq : q = i.toNatClampNeg
          · subst hq
            simp [updV, va_up, va_rf, ad]
          · simp [updV, va_up, hq]
        · cases hcv
    · cases hv
  · cases hv
theorem up_dflt (b B : Nat) (ty : FieldType) : up b B (defaultValue ty) = defaultValue ty := by cases ty <;> rfl
/-- a new object -/
theorem w_new (hx : p.tables.exec = Jvm.exec) (hb : c.code = cc) (hts : ∀ w ∈ Ts, w.before args s = true) (hK : va_K (dC, dI) cl [] s) (hR : RH b B dC dI dA cl SL s h H) (hS : va_S (fun q => B ≤ q) s.heap H locs) {tyF : Nat → Nat → FieldType} {own C : String} {T : u_T} {N ci index : Nat} (hO : clOK cl Ts tyF ci C T N) (hown : s.vm.findClass own = some m.cls)
    (hcl : (Cond.classLink own index C).before args s = true) (hinst : (Cond.instantiable C N).before args s = true) (hini : (Cond.initialized C).before args s = true) (hcells : cells + 1 ≤ R.cells) (hslots : slots + N ≤ R.slots) (hdg : decode cc pc = .ok (.new index, 3))
    (kk : ∀ (H1 : Heap), RH b B dC dI dA cl SL s (mkobj h ci N ((List.range N).map fun k => defaultValue (tyF ci k))) H1 → va_S (fun q => B ≤ q) s.heap H1 locs → W p l e R s m args below meth c H1 locs (cells + 1) (slots + N) Q (F0 m (pc + 3) ls (.ref (ad b B h.1) :: rest))) : W p l e R s m args below meth c H locs cells slots Q (F0 m pc ls rest) := by
  obtain ⟨hc, hin, hty, hnm⟩ := hO
  have hKn := hK.1 ci _ hc
  refine W.newcK hx hb hown hcl hinst hini rfl hdg hcells hslots hKn.2.1 rfl fun H1 kC hkC e1 z1 o1 => ?_
  have hat : va_at (dC, dI) cl (H.size, cv b B dA (.inr (ci, (List.range N).map fun k => defaultValue (tyF ci k)))) H1 := by
    refine ⟨_, hc, (u_born (tyF ci) hts hin hKn hkC e1 hty).to (fun j hj => ?_)⟩
    have hj : j < N := hj
    simp [vp_V, hj, up_dflt]
  have hk := kk H1 (hR.push hat z1 o1 (fun _ _ h9 => by cases h9)) ⟨Nat.le_trans hS.1 (by omega), fun x h1 h2 => (o1 x (Nat.lt_of_lt_of_le h1 hS.1)).trans (hS.2.1 x h1 h2), hS.2.2⟩
  rw [hR.next] at hk
  exact hk
/-- a new array of a primitive type -/
theorem w_newa (hx : p.tables.exec = Jvm.exec) (hb : c.code = cc) (hR : RH b B dC dI dA cl SL s h H) (hS : va_S (fun q => B ≤ q) s.heap H locs) {atype : ArrayType} {t N : Nat} {n : Int32} {a0 : (Nat → Int32) ⊕ (Nat → Int64) ⊕ (Nat → UInt32) ⊕ (Nat → UInt64) ⊕ (Nat → Option Nat)} (harr : (Cond.arrayClass (newarray.typeOf atype)).before args s = true) (hSL : t ∈ SL) (hA : s.vm.findClass ("[" ++ (newarray.typeOf atype).toString) = some (dA t))
    (ha : ∀ cA : ClassId, vp_cell cA (N, cvA b B a0) = arrV cA N (fun _ => defaultValue (newarray.typeOf atype))) (hn : ¬ n < 0) (hN : n.toNatClampNeg = N) (hbytes : N * componentBytes (newarray.typeOf atype) ≤ 536870912) (hcells : cells + 1 ≤ R.cells) (hslots : slots + N ≤ R.slots) (hdg : decode cc pc = .ok (.newarray atype, 2))
    (kk : ∀ (H1 : Heap), RH b B dC dI dA cl SL s (mkarr h t N a0) H1 → va_S (fun q => B ≤ q) s.heap H1 locs → W p l e R s m args below meth c H1 locs (cells + 1) (slots + N) Q (F0 m (pc + 2) ls (.ref (ad b B h.1) :: rest))) : W p l e R s m args below meth c H locs cells slots Q (F0 m pc ls (.int n :: rest)) := by
  refine va_newaK hx hb harr rfl hdg rfl hn hN hbytes hcells hslots rfl fun H1 cA e1 z1 o1 hAr hNm => ?_
  have hcA : cA = dA t := Option.some.inj (hNm.symm.trans hA)
  subst hcA
  have hat : va_at (dC, dI) cl (H.size, cv b B dA (.inl (t, N, a0))) H1 := by
    show H1[H.size]? = some (vp_cell (dA t) (N, cvA b B a0))
    rw [ha]
    exact e1
  have hk := kk H1 (hR.push hat z1 o1 (fun t' x' hx' => by cases hx'; exact hSL)) ⟨Nat.le_trans hS.1 (by omega), fun x h1 h2 => (o1 x (Nat.lt_of_lt_of_le h1 hS.1)).trans (hS.2.1 x h1 h2), hS.2.2⟩
  rw [hR.next] at hk
  exact hk
/-- a new array of references -/
theorem w_newq (hx : p.tables.exec = Jvm.exec) (hb : c.code = cc) (hR : RH b B dC dI dA cl SL s h H) (hS : va_S (fun q => B ≤ q) s.heap H locs) {own C : String} {index t N : Nat} {n : Int32} (hown : s.vm.findClass own = some m.cls) (hclink : (Cond.classLink own index C).before args s = true) (hover : va_AO C s) (hSL : t ∈ SL) (hA : s.vm.findClass ("[" ++ (FieldType.object C).toString) = some (dA t))
    (hn : ¬ n < 0) (hN : n.toNatClampNeg = N) (hbytes : N * 4 ≤ 536870912) (hcells : cells + 1 ≤ R.cells) (hslots : slots + N ≤ R.slots) (hdg : decode cc pc = .ok (.anewarray index, 3))
    (kk : ∀ (H1 : Heap), RH b B dC dI dA cl SL s (mkarr h t N (.inr (.inr (.inr (.inr (fun _ => none)))))) H1 → va_S (fun q => B ≤ q) s.heap H1 locs → W p l e R s m args below meth c H1 locs (cells + 1) (slots + N) Q (F0 m (pc + 3) ls (.ref (ad b B h.1) :: rest))) : W p l e R s m args below meth c H locs cells slots Q (F0 m pc ls (.int n :: rest)) := by
  subst hN
  refine W.anew hx hb hown hclink (va_AO.use hover) rfl hdg rfl hn hbytes hcells hslots fun cA kA comp f1 f2 f3 f4 => ?_
  have hcA : cA = dA t := Option.some.inj (f1.symm.trans hA)
  subst hcA
  generalize hH1 : H.push ({ cls := dA t, slots := Array.replicate n.toNatClampNeg .null, vm := .none } : Cell) = H1
  have z1 : H1.size = H.size + 1 := by rw [← hH1, Array.size_push]
  have e1 : H1[H.size]? = some (arrV (dA t) n.toNatClampNeg (fun _ => .null)) := by rw [← hH1, Array.getElem?_push_size, ← arrV_new]
  have o1 : ∀ q : Nat, q < H.size → H1[q]? = H[q]? := fun q hq => by rw [← hH1, Array.getElem?_push, if_neg (Nat.ne_of_lt hq)]
  have hk := kk H1 (hR.push (c' := .inl (t, n.toNatClampNeg, .inr (.inr (.inr (.inr (fun _ => none)))))) e1 z1 o1 (fun t' x' hx' => by cases hx'; exact hSL)) ⟨Nat.le_trans hS.1 (by omega), fun x h1 h2 => (o1 x (Nat.lt_of_lt_of_le h1 hS.1)).trans (hS.2.1 x h1 h2), hS.2.2⟩
  rw [hR.next] at hk
  exact hk
end HW
end
section
/-! Tables of the small machine, by program (wip/whole/tools/gen.py). -/
def TB : List Cond := [
  .selects "FlowEquations$Equation" ⟨"FlowEquations$Equation", "readLine", "([II)Z"⟩ ⟨"FlowEquations$Equation", "readLine", "([II)Z"⟩,
  .selects "FlowEquations$Equation" ⟨"FlowEquations$Equation", "readTerm", "(IIZ)I"⟩ ⟨"FlowEquations$Equation", "readTerm", "(IIZ)I"⟩,
  .selects "FlowEquations$Equation" ⟨"FlowEquations$Equation", "mayBeginTerm", "(II)Z"⟩ ⟨"FlowEquations$Equation", "mayBeginTerm", "(II)Z"⟩,
  .selects "FlowEquations$Equation" ⟨"FlowEquations$Equation", "readName", "(II)I"⟩ ⟨"FlowEquations$Equation", "readName", "(II)I"⟩,
  .selects "FlowEquations$Equation" ⟨"FlowEquations$Equation", "readParts", "(III)I"⟩ ⟨"FlowEquations$Equation", "readParts", "(III)I"⟩,
  .selects "FlowEquations$Program" ⟨"FlowEquations$Program", "exchange", "(ILFlowEquations$Equation;)LFlowEquations$Equation;"⟩ ⟨"FlowEquations$Program", "exchange", "(ILFlowEquations$Equation;)LFlowEquations$Equation;"⟩,
  .selects "FlowEquations" ⟨"FlowEquations", "becomeUnready", "()V"⟩ ⟨"FlowEquations", "becomeUnready", "()V"⟩,
  .selects "FlowEquations$Run" ⟨"FlowEquations$Run", "restart", "()V"⟩ ⟨"FlowEquations$Run", "restart", "()V"⟩,
  .selects "FlowEquations$Program" ⟨"FlowEquations$Program", "defines", "(I)Z"⟩ ⟨"FlowEquations$Program", "defines", "(I)Z"⟩,
  .selects "FlowEquations$Checker" ⟨"FlowEquations$Checker", "firstFault", "()I"⟩ ⟨"FlowEquations$Checker", "firstFault", "()I"⟩,
  .selects "FlowEquations$Checker" ⟨"FlowEquations$Checker", "leastMissing", "()I"⟩ ⟨"FlowEquations$Checker", "leastMissing", "()I"⟩,
  .selects "FlowEquations$Equation" ⟨"FlowEquations$Equation", "allNames", "()I"⟩ ⟨"FlowEquations$Equation", "allNames", "()I"⟩,
  .selects "FlowEquations$Program" ⟨"FlowEquations$Program", "clockSet", "(I)I"⟩ ⟨"FlowEquations$Program", "clockSet", "(I)I"⟩,
  .selects "FlowEquations$Checker" ⟨"FlowEquations$Checker", "leastOnClockRing", "()I"⟩ ⟨"FlowEquations$Checker", "leastOnClockRing", "()I"⟩,
  .selects "FlowEquations$Checker" ⟨"FlowEquations$Checker", "clocksLeadBackTo", "(I)Z"⟩ ⟨"FlowEquations$Checker", "clocksLeadBackTo", "(I)Z"⟩,
  .selects "FlowEquations$Checker" ⟨"FlowEquations$Checker", "leastUnfit", "()I"⟩ ⟨"FlowEquations$Checker", "leastUnfit", "()I"⟩,
  .selects "FlowEquations$Equation" ⟨"FlowEquations$Equation", "fits", "(I[I)Z"⟩ ⟨"FlowEquations$Equation", "fits", "(I[I)Z"⟩,
  .selects "FlowEquations$Equation" ⟨"FlowEquations$Equation", "fitsAt", "(I[I)Z"⟩ ⟨"FlowEquations$Equation", "fitsAt", "(I[I)Z"⟩,
  .selects "FlowEquations$Equation" ⟨"FlowEquations$Equation", "handClockDown", "(I[I)V"⟩ ⟨"FlowEquations$Equation", "handClockDown", "(I[I)V"⟩,
  .selects "FlowEquations$Checker" ⟨"FlowEquations$Checker", "leastNeedingItself", "()I"⟩ ⟨"FlowEquations$Checker", "leastNeedingItself", "()I"⟩,
  .selects "FlowEquations$Checker" ⟨"FlowEquations$Checker", "gatherNeeds", "()V"⟩ ⟨"FlowEquations$Checker", "gatherNeeds", "()V"⟩,
  .selects "FlowEquations$Equation" ⟨"FlowEquations$Equation", "namesOutsideP", "()I"⟩ ⟨"FlowEquations$Equation", "namesOutsideP", "()I"⟩,
  .selects "FlowEquations$Run" ⟨"FlowEquations$Run", "arrange", "([I)V"⟩ ⟨"FlowEquations$Run", "arrange", "([I)V"⟩,
  .selects "FlowEquations$Program" ⟨"FlowEquations$Program", "definedCount", "()I"⟩ ⟨"FlowEquations$Program", "definedCount", "()I"⟩,
  .selects "FlowEquations$Run" ⟨"FlowEquations$Run", "passInstant", "()V"⟩ ⟨"FlowEquations$Run", "passInstant", "()V"⟩,
  .selects "FlowEquations$Run" ⟨"FlowEquations$Run", "settle", "(I)V"⟩ ⟨"FlowEquations$Run", "settle", "(I)V"⟩,
  .selects "FlowEquations$Run" ⟨"FlowEquations$Run", "isActive", "(I)Z"⟩ ⟨"FlowEquations$Run", "isActive", "(I)Z"⟩,
  .selects "FlowEquations$Run" ⟨"FlowEquations$Run", "evaluate", "(LFlowEquations$Equation;)V"⟩ ⟨"FlowEquations$Run", "evaluate", "(LFlowEquations$Equation;)V"⟩,
  .selects "FlowEquations$Run" ⟨"FlowEquations$Run", "valueAt", "(LFlowEquations$Equation;I)I"⟩ ⟨"FlowEquations$Run", "valueAt", "(LFlowEquations$Equation;I)I"⟩,
  .selects "FlowEquations$Run" ⟨"FlowEquations$Run", "operatorValue", "(LFlowEquations$Equation;I)I"⟩ ⟨"FlowEquations$Run", "operatorValue", "(LFlowEquations$Equation;I)I"⟩,
  .selects "FlowEquations$Equation" ⟨"FlowEquations$Equation", "partValue", "(II)I"⟩ ⟨"FlowEquations$Equation", "partValue", "(II)I"⟩,
  .selects "FlowEquations$Run" ⟨"FlowEquations$Run", "hasBegun", "(I)Z"⟩ ⟨"FlowEquations$Run", "hasBegun", "(I)Z"⟩,
  .selects "FlowEquations$Run" ⟨"FlowEquations$Run", "remember", "(LFlowEquations$Equation;)V"⟩ ⟨"FlowEquations$Run", "remember", "(LFlowEquations$Equation;)V"⟩,
  .selects "FlowEquations$Equation" ⟨"FlowEquations$Equation", "remembersAt", "(I)Z"⟩ ⟨"FlowEquations$Equation", "remembersAt", "(I)Z"⟩,
  .selects "FlowEquations$Run" ⟨"FlowEquations$Run", "rememberingClock", "(LFlowEquations$Equation;I)I"⟩ ⟨"FlowEquations$Run", "rememberingClock", "(LFlowEquations$Equation;I)I"⟩,
  .selects "FlowEquations$Run" ⟨"FlowEquations$Run", "isPresent", "(I)Z"⟩ ⟨"FlowEquations$Run", "isPresent", "(I)Z"⟩,
  .selects "FlowEquations$Program" ⟨"FlowEquations$Program", "characterCount", "()I"⟩ ⟨"FlowEquations$Program", "characterCount", "()I"⟩,
  .selects "FlowEquationsModel" ⟨"FlowEquationsModel", "good", "()Z"⟩ ⟨"FlowEquationsModel", "good", "()Z"⟩,
  .selects "FlowEquationsModel" ⟨"FlowEquationsModel", "findEnds", "(I)V"⟩ ⟨"FlowEquationsModel", "findEnds", "(I)V"⟩,
  .selects "FlowEquationsModel" ⟨"FlowEquationsModel", "missing", "(I)Z"⟩ ⟨"FlowEquationsModel", "missing", "(I)Z"⟩,
  .selects "FlowEquationsModel" ⟨"FlowEquationsModel", "circles", "(I)Z"⟩ ⟨"FlowEquationsModel", "circles", "(I)Z"⟩,
  .selects "FlowEquationsModel" ⟨"FlowEquationsModel", "fit", "(I)Z"⟩ ⟨"FlowEquationsModel", "fit", "(I)Z"⟩,
  .selects "FlowEquationsModel" ⟨"FlowEquationsModel", "about", "(II)I"⟩ ⟨"FlowEquationsModel", "about", "(II)I"⟩,
  .selects "FlowEquationsModel" ⟨"FlowEquationsModel", "child", "(III)I"⟩ ⟨"FlowEquationsModel", "child", "(III)I"⟩,
  .selects "FlowEquationsModel" ⟨"FlowEquationsModel", "findNeeds", "()V"⟩ ⟨"FlowEquationsModel", "findNeeds", "()V"⟩,
  .selects "FlowEquationsModel" ⟨"FlowEquationsModel", "needsItself", "(I)Z"⟩ ⟨"FlowEquationsModel", "needsItself", "(I)Z"⟩,
  .selects "FlowEquationsModel" ⟨"FlowEquationsModel", "instant", "()V"⟩ ⟨"FlowEquationsModel", "instant", "()V"⟩,
  .selects "FlowEquationsModel" ⟨"FlowEquationsModel", "canWork", "(I)Z"⟩ ⟨"FlowEquationsModel", "canWork", "(I)Z"⟩,
  .selects "FlowEquationsModel" ⟨"FlowEquationsModel", "active", "(I)Z"⟩ ⟨"FlowEquationsModel", "active", "(I)Z"⟩,
  .selects "FlowEquationsModel" ⟨"FlowEquationsModel", "workAll", "(I)V"⟩ ⟨"FlowEquationsModel", "workAll", "(I)V"⟩,
  .selects "FlowEquationsModel" ⟨"FlowEquationsModel", "work", "(II)I"⟩ ⟨"FlowEquationsModel", "work", "(II)I"⟩,
  .selects "FlowEquationsModel" ⟨"FlowEquationsModel", "seen", "(I)Z"⟩ ⟨"FlowEquationsModel", "seen", "(I)Z"⟩,
  .initialized "FlowEquationsLaw",
  .initialized "FlowEquations",
  .initialized "FlowEquations$Program",
  .initialized "FlowEquations$Equation",
  .initialized "FlowEquations$Checker",
  .initialized "FlowEquations$Run",
  .initialized "FlowEquationsModel",
  .initialized "java/lang/String",
  .initialized "java/lang/StringLatin1",
  .initialized "jdk/internal/util/Preconditions",
  .initialized "java/lang/StringUTF16",
  .initialized "java/lang/System",
  .initialized "java/util/Arrays",
  .initialized "java/lang/Math",
  .initialized "java/lang/Integer",
  .classLink "FlowEquationsLaw" 7 "FlowEquations",
  .instantiable "FlowEquations" 8,
  .methodLink "FlowEquationsLaw" 9 ⟨"FlowEquations", "<init>", "()V"⟩,
  .instanceMethod ⟨"FlowEquations", "<init>", "()V"⟩,
  .code ⟨"FlowEquations", "<init>", "()V"⟩ prog_1_method_1_code 1 none,
  .methodLink "FlowEquations" 1 ⟨"java/lang/Object", "<init>", "()V"⟩,
  .instanceMethod ⟨"java/lang/Object", "<init>", "()V"⟩,
  .code ⟨"java/lang/Object", "<init>", "()V"⟩ object_method_1_code 1 none,
  .classLink "FlowEquations" 20 "FlowEquations$Program",
  .instantiable "FlowEquations$Program" 2,
  .instanceMethod ⟨"FlowEquations$Program", "<init>", "()V"⟩,
  .code ⟨"FlowEquations$Program", "<init>", "()V"⟩ prog_4_method_1_code 2 none,
  .methodLink "FlowEquations$Program" 3 ⟨"java/lang/Object", "<init>", "()V"⟩,
  .classLink "FlowEquations$Program" 9 "FlowEquations$Equation",
  .instantiable "FlowEquations$Equation" 11,
  .instanceMethod ⟨"FlowEquations$Equation", "<init>", "()V"⟩,
  .code ⟨"FlowEquations$Equation", "<init>", "()V"⟩ prog_3_method_1_code 1 none,
  .methodLink "FlowEquations$Equation" 3 ⟨"java/lang/Object", "<init>", "()V"⟩,
  .fieldLink "FlowEquations$Equation" 9 "FlowEquations$Equation" "text" "[I",
  .fieldLink "FlowEquations$Equation" 15 "FlowEquations$Equation" "length" "I",
  .fieldLink "FlowEquations$Equation" 19 "FlowEquations$Equation" "depth" "I",
  .fieldLink "FlowEquations$Equation" 22 "FlowEquations$Equation" "badPlace" "I",
  .fieldLink "FlowEquations$Equation" 25 "FlowEquations$Equation" "parts" "[I",
  .fieldLink "FlowEquations$Equation" 28 "FlowEquations$Equation" "named" "[I",
  .fieldLink "FlowEquations$Equation" 31 "FlowEquations$Equation" "isTerm" "[Z",
  .fieldLink "FlowEquations$Equation" 35 "FlowEquations$Equation" "insideP" "[Z",
  .fieldLink "FlowEquations$Equation" 38 "FlowEquations$Equation" "termClocks" "[I",
  .fieldLink "FlowEquations$Equation" 41 "FlowEquations$Equation" "termValues" "[I",
  .fieldLink "FlowEquations$Equation" 44 "FlowEquations$Equation" "memories" "[I",
  .laysFinal "FlowEquations$Equation" "FlowEquations$Equation" "text" "[I",
  .lays "FlowEquations$Equation" "FlowEquations$Equation" "length" "I",
  .lays "FlowEquations$Equation" "FlowEquations$Equation" "depth" "I",
  .lays "FlowEquations$Equation" "FlowEquations$Equation" "badPlace" "I",
  .laysFinal "FlowEquations$Equation" "FlowEquations$Equation" "parts" "[I",
  .laysFinal "FlowEquations$Equation" "FlowEquations$Equation" "named" "[I",
  .laysFinal "FlowEquations$Equation" "FlowEquations$Equation" "isTerm" "[Z",
  .laysFinal "FlowEquations$Equation" "FlowEquations$Equation" "insideP" "[Z",
  .laysFinal "FlowEquations$Equation" "FlowEquations$Equation" "termClocks" "[I",
  .laysFinal "FlowEquations$Equation" "FlowEquations$Equation" "termValues" "[I",
  .laysFinal "FlowEquations$Equation" "FlowEquations$Equation" "memories" "[I",
  .arrayClass .int,
  .arrayClass .boolean,
  .fieldLink "FlowEquations$Program" 11 "FlowEquations$Program" "equations" "[LFlowEquations$Equation;",
  .fieldLink "FlowEquations$Program" 17 "FlowEquations$Program" "clocks" "[I",
  .laysFinal "FlowEquations$Program" "FlowEquations$Program" "equations" "[LFlowEquations$Equation;",
  .laysFinal "FlowEquations$Program" "FlowEquations$Program" "clocks" "[I",
  .classLink "FlowEquations" 27 "FlowEquations$Checker",
  .instantiable "FlowEquations$Checker" 2,
  .instanceMethod ⟨"FlowEquations$Checker", "<init>", "(LFlowEquations$Program;)V"⟩,
  .code ⟨"FlowEquations$Checker", "<init>", "(LFlowEquations$Program;)V"⟩ prog_2_method_1_code 2 none,
  .methodLink "FlowEquations$Checker" 3 ⟨"java/lang/Object", "<init>", "()V"⟩,
  .fieldLink "FlowEquations$Checker" 9 "FlowEquations$Checker" "program" "LFlowEquations$Program;",
  .fieldLink "FlowEquations$Checker" 15 "FlowEquations$Checker" "needs" "[I",
  .laysFinal "FlowEquations$Checker" "FlowEquations$Checker" "program" "LFlowEquations$Program;",
  .laysFinal "FlowEquations$Checker" "FlowEquations$Checker" "needs" "[I",
  .classLink "FlowEquations" 36 "FlowEquations$Run",
  .instantiable "FlowEquations$Run" 10,
  .instanceMethod ⟨"FlowEquations$Run", "<init>", "(LFlowEquations$Program;)V"⟩,
  .code ⟨"FlowEquations$Run", "<init>", "(LFlowEquations$Program;)V"⟩ prog_5_method_1_code 2 none,
  .methodLink "FlowEquations$Run" 3 ⟨"java/lang/Object", "<init>", "()V"⟩,
  .fieldLink "FlowEquations$Run" 9 "FlowEquations$Run" "program" "LFlowEquations$Program;",
  .fieldLink "FlowEquations$Run" 15 "FlowEquations$Run" "inputs" "[I",
  .fieldLink "FlowEquations$Run" 19 "FlowEquations$Run" "values" "[I",
  .fieldLink "FlowEquations$Run" 22 "FlowEquations$Run" "presences" "[I",
  .fieldLink "FlowEquations$Run" 25 "FlowEquations$Run" "order" "[I",
  .fieldLink "FlowEquations$Run" 28 "FlowEquations$Run" "ordered" "I",
  .fieldLink "FlowEquations$Run" 32 "FlowEquations$Run" "presentNow" "I",
  .fieldLink "FlowEquations$Run" 35 "FlowEquations$Run" "activeNow" "I",
  .fieldLink "FlowEquations$Run" 38 "FlowEquations$Run" "begunClocks" "I",
  .fieldLink "FlowEquations$Run" 41 "FlowEquations$Run" "instants" "I",
  .laysFinal "FlowEquations$Run" "FlowEquations$Run" "program" "LFlowEquations$Program;",
  .laysFinal "FlowEquations$Run" "FlowEquations$Run" "inputs" "[I",
  .laysFinal "FlowEquations$Run" "FlowEquations$Run" "values" "[I",
  .laysFinal "FlowEquations$Run" "FlowEquations$Run" "presences" "[I",
  .laysFinal "FlowEquations$Run" "FlowEquations$Run" "order" "[I",
  .lays "FlowEquations$Run" "FlowEquations$Run" "ordered" "I",
  .lays "FlowEquations$Run" "FlowEquations$Run" "presentNow" "I",
  .lays "FlowEquations$Run" "FlowEquations$Run" "activeNow" "I",
  .lays "FlowEquations$Run" "FlowEquations$Run" "begunClocks" "I",
  .lays "FlowEquations$Run" "FlowEquations$Run" "instants" "I",
  .classLink "FlowEquations" 43 "FlowEquations$Equation",
  .fieldLink "FlowEquations" 9 "FlowEquations" "line" "[I",
  .fieldLink "FlowEquations" 13 "FlowEquations" "lineLength" "I",
  .fieldLink "FlowEquations" 17 "FlowEquations" "latestBadPlace" "I",
  .fieldLink "FlowEquations" 23 "FlowEquations" "program" "LFlowEquations$Program;",
  .fieldLink "FlowEquations" 32 "FlowEquations" "checker" "LFlowEquations$Checker;",
  .fieldLink "FlowEquations" 39 "FlowEquations" "run" "LFlowEquations$Run;",
  .fieldLink "FlowEquations" 46 "FlowEquations" "draft" "LFlowEquations$Equation;",
  .fieldLink "FlowEquations" 50 "FlowEquations" "ready" "Z",
  .laysFinal "FlowEquations" "FlowEquations" "line" "[I",
  .lays "FlowEquations" "FlowEquations" "lineLength" "I",
  .lays "FlowEquations" "FlowEquations" "latestBadPlace" "I",
  .laysFinal "FlowEquations" "FlowEquations" "program" "LFlowEquations$Program;",
  .laysFinal "FlowEquations" "FlowEquations" "checker" "LFlowEquations$Checker;",
  .laysFinal "FlowEquations" "FlowEquations" "run" "LFlowEquations$Run;",
  .lays "FlowEquations" "FlowEquations" "draft" "LFlowEquations$Equation;",
  .lays "FlowEquations" "FlowEquations" "ready" "Z",
  .methodLink "FlowEquationsLaw" 13 ⟨"FlowEquations", "type", "(I)I"⟩,
  .instanceMethod ⟨"FlowEquations", "type", "(I)I"⟩,
  .selects "FlowEquations" ⟨"FlowEquations", "type", "(I)I"⟩ ⟨"FlowEquations", "type", "(I)I"⟩,
  .code ⟨"FlowEquations", "type", "(I)I"⟩ prog_1_method_2_code 2 (some .int),
  .methodLink "FlowEquations" 54 ⟨"FlowEquations", "isOfLine", "(I)Z"⟩,
  .static ⟨"FlowEquations", "isOfLine", "(I)Z"⟩,
  .code ⟨"FlowEquations", "isOfLine", "(I)Z"⟩ prog_1_method_17_code 1 (some .boolean),
  .methodLink "FlowEquations" 149 ⟨"FlowEquations", "isDigit", "(I)Z"⟩,
  .static ⟨"FlowEquations", "isDigit", "(I)Z"⟩,
  .code ⟨"FlowEquations", "isDigit", "(I)Z"⟩ prog_1_method_18_code 1 (some .boolean),
  .methodLink "FlowEquations" 152 ⟨"FlowEquations", "isVariableName", "(I)Z"⟩,
  .static ⟨"FlowEquations", "isVariableName", "(I)Z"⟩,
  .code ⟨"FlowEquations", "isVariableName", "(I)Z"⟩ prog_1_method_19_code 1 (some .boolean),
  .methodLink "FlowEquations" 155 ⟨"FlowEquations", "isInputName", "(I)Z"⟩,
  .static ⟨"FlowEquations", "isInputName", "(I)Z"⟩,
  .code ⟨"FlowEquations", "isInputName", "(I)Z"⟩ prog_1_method_20_code 1 (some .boolean),
  .methodLink "FlowEquations" 158 ⟨"FlowEquations", "isOperator", "(I)Z"⟩,
  .static ⟨"FlowEquations", "isOperator", "(I)Z"⟩,
  .code ⟨"FlowEquations", "isOperator", "(I)Z"⟩ prog_1_method_21_code 2 (some .boolean),
  .methodLink "FlowEquations" 163 ⟨"java/lang/String", "length", "()I"⟩,
  .instanceMethod ⟨"java/lang/String", "length", "()I"⟩,
  .selects "java/lang/String" ⟨"java/lang/String", "length", "()I"⟩ ⟨"java/lang/String", "length", "()I"⟩,
  .code ⟨"java/lang/String", "length", "()I"⟩ prog_10_method_54_code 1 (some .int),
  .methodLink "java/lang/String" 335 ⟨"java/lang/String", "coder", "()B"⟩,
  .instanceMethod ⟨"java/lang/String", "coder", "()B"⟩,
  .selects "java/lang/String" ⟨"java/lang/String", "coder", "()B"⟩ ⟨"java/lang/String", "coder", "()B"⟩,
  .code ⟨"java/lang/String", "coder", "()B"⟩ prog_10_method_152_code 1 (some .byte),
  .fieldLink "java/lang/String" 38 "java/lang/String" "COMPACT_STRINGS" "Z",
  .methodLink "FlowEquations" 167 ⟨"java/lang/String", "charAt", "(I)C"⟩,
  .instanceMethod ⟨"java/lang/String", "charAt", "(I)C"⟩,
  .selects "java/lang/String" ⟨"java/lang/String", "charAt", "(I)C"⟩ ⟨"java/lang/String", "charAt", "(I)C"⟩,
  .code ⟨"java/lang/String", "charAt", "(I)C"⟩ prog_10_method_56_code 2 (some .char),
  .methodLink "java/lang/String" 492 ⟨"java/lang/String", "isLatin1", "()Z"⟩,
  .instanceMethod ⟨"java/lang/String", "isLatin1", "()Z"⟩,
  .selects "java/lang/String" ⟨"java/lang/String", "isLatin1", "()Z"⟩ ⟨"java/lang/String", "isLatin1", "()Z"⟩,
  .code ⟨"java/lang/String", "isLatin1", "()Z"⟩ prog_10_method_154_code 1 (some .boolean),
  .methodLink "java/lang/String" 495 ⟨"java/lang/StringLatin1", "charAt", "([BI)C"⟩,
  .static ⟨"java/lang/StringLatin1", "charAt", "([BI)C"⟩,
  .code ⟨"java/lang/StringLatin1", "charAt", "([BI)C"⟩ prog_11_method_2_code 2 (some .char),
  .methodLink "java/lang/StringLatin1" 9 ⟨"java/lang/String", "checkIndex", "(II)V"⟩,
  .static ⟨"java/lang/String", "checkIndex", "(II)V"⟩,
  .code ⟨"java/lang/String", "checkIndex", "(II)V"⟩ prog_10_method_155_code 2 none,
  .fieldLink "java/lang/String" 1053 "jdk/internal/util/Preconditions" "SIOOBE_FORMATTER" "Ljava/util/function/BiFunction;",
  .methodLink "java/lang/String" 1059 ⟨"jdk/internal/util/Preconditions", "checkIndex", "(IILjava/util/function/BiFunction;)I"⟩,
  .static ⟨"jdk/internal/util/Preconditions", "checkIndex", "(IILjava/util/function/BiFunction;)I"⟩,
  .code ⟨"jdk/internal/util/Preconditions", "checkIndex", "(IILjava/util/function/BiFunction;)I"⟩ prog_15_method_11_code 3 (some .int),
  .methodLink "java/lang/String" 498 ⟨"java/lang/StringUTF16", "charAt", "([BI)C"⟩,
  .static ⟨"java/lang/StringUTF16", "charAt", "([BI)C"⟩,
  .code ⟨"java/lang/StringUTF16", "charAt", "([BI)C"⟩ prog_12_method_83_code 2 (some .char),
  .methodLink "java/lang/StringUTF16" 67 ⟨"java/lang/StringUTF16", "checkIndex", "(I[B)V"⟩,
  .static ⟨"java/lang/StringUTF16", "checkIndex", "(I[B)V"⟩,
  .code ⟨"java/lang/StringUTF16", "checkIndex", "(I[B)V"⟩ prog_12_method_91_code 2 none,
  .methodLink "java/lang/StringUTF16" 48 ⟨"java/lang/StringUTF16", "length", "([B)I"⟩,
  .static ⟨"java/lang/StringUTF16", "length", "([B)I"⟩,
  .code ⟨"java/lang/StringUTF16", "length", "([B)I"⟩ prog_12_method_6_code 1 (some .int),
  .methodLink "java/lang/StringUTF16" 414 ⟨"java/lang/String", "checkIndex", "(II)V"⟩,
  .methodLink "java/lang/StringUTF16" 71 ⟨"java/lang/StringUTF16", "getChar", "([BI)C"⟩,
  .static ⟨"java/lang/StringUTF16", "getChar", "([BI)C"⟩,
  .code ⟨"java/lang/StringUTF16", "getChar", "([BI)C"⟩ prog_12_method_5_code 2 (some .char),
  .fieldLink "java/lang/StringUTF16" 44 "java/lang/StringUTF16" "$assertionsDisabled" "Z",
  .fieldLink "java/lang/StringUTF16" 59 "java/lang/StringUTF16" "HI_BYTE_SHIFT" "I",
  .fieldLink "java/lang/StringUTF16" 63 "java/lang/StringUTF16" "LO_BYTE_SHIFT" "I",
  .arrayClass .byte,
  .methodLink "FlowEquationsLaw" 20 ⟨"FlowEquations", "types", "(J)I"⟩,
  .instanceMethod ⟨"FlowEquations", "types", "(J)I"⟩,
  .selects "FlowEquations" ⟨"FlowEquations", "types", "(J)I"⟩ ⟨"FlowEquations", "types", "(J)I"⟩,
  .code ⟨"FlowEquations", "types", "(J)I"⟩ prog_1_method_3_code 6 (some .int),
  .methodLink "FlowEquations" 58 ⟨"FlowEquations", "type", "(I)I"⟩,
  .methodLink "FlowEquationsLaw" 25 ⟨"FlowEquations", "define", "(I)I"⟩,
  .instanceMethod ⟨"FlowEquations", "define", "(I)I"⟩,
  .selects "FlowEquations" ⟨"FlowEquations", "define", "(I)I"⟩ ⟨"FlowEquations", "define", "(I)I"⟩,
  .code ⟨"FlowEquations", "define", "(I)I"⟩ prog_1_method_4_code 4 (some .int),
  .methodLink "FlowEquations" 62 ⟨"FlowEquations", "isVariable", "(I)Z"⟩,
  .static ⟨"FlowEquations", "isVariable", "(I)Z"⟩,
  .code ⟨"FlowEquations", "isVariable", "(I)Z"⟩ prog_1_method_15_code 1 (some .boolean),
  .instanceMethod ⟨"FlowEquations$Equation", "readLine", "([II)Z"⟩,
  .code ⟨"FlowEquations$Equation", "readLine", "([II)Z"⟩ prog_3_method_2_code 4 (some .boolean),
  .methodLink "FlowEquations$Equation" 47 ⟨"java/lang/System", "arraycopy", "(Ljava/lang/Object;ILjava/lang/Object;II)V"⟩,
  .static ⟨"java/lang/System", "arraycopy", "(Ljava/lang/Object;ILjava/lang/Object;II)V"⟩,
  .native ⟨"java/lang/System", "arraycopy", "(Ljava/lang/Object;ILjava/lang/Object;II)V"⟩,
  .methodLink "FlowEquations$Equation" 53 ⟨"java/util/Arrays", "fill", "([II)V"⟩,
  .static ⟨"java/util/Arrays", "fill", "([II)V"⟩,
  .code ⟨"java/util/Arrays", "fill", "([II)V"⟩ prog_14_method_103_code 4 none,
  .methodLink "FlowEquations$Equation" 59 ⟨"FlowEquations$Equation", "readTerm", "(IIZ)I"⟩,
  .instanceMethod ⟨"FlowEquations$Equation", "readTerm", "(IIZ)I"⟩,
  .code ⟨"FlowEquations$Equation", "readTerm", "(IIZ)I"⟩ prog_3_method_3_code 6 (some .int),
  .methodLink "FlowEquations$Equation" 63 ⟨"FlowEquations$Equation", "mayBeginTerm", "(II)Z"⟩,
  .instanceMethod ⟨"FlowEquations$Equation", "mayBeginTerm", "(II)Z"⟩,
  .code ⟨"FlowEquations$Equation", "mayBeginTerm", "(II)Z"⟩ prog_3_method_4_code 3 (some .boolean),
  .static ⟨"FlowEquations", "partCount", "(I)I"⟩,
  .code ⟨"FlowEquations", "partCount", "(I)I"⟩ prog_1_method_22_code 1 (some .int),
  .methodLink "FlowEquations$Equation" 67 ⟨"java/lang/Math", "max", "(II)I"⟩,
  .static ⟨"java/lang/Math", "max", "(II)I"⟩,
  .code ⟨"java/lang/Math", "max", "(II)I"⟩ prog_9_method_65_code 2 (some .int),
  .methodLink "FlowEquations$Equation" 77 ⟨"FlowEquations$Equation", "readName", "(II)I"⟩,
  .instanceMethod ⟨"FlowEquations$Equation", "readName", "(II)I"⟩,
  .code ⟨"FlowEquations$Equation", "readName", "(II)I"⟩ prog_3_method_6_code 3 (some .int),
  .methodLink "FlowEquations$Equation" 80 ⟨"FlowEquations$Equation", "readParts", "(III)I"⟩,
  .instanceMethod ⟨"FlowEquations$Equation", "readParts", "(III)I"⟩,
  .code ⟨"FlowEquations$Equation", "readParts", "(III)I"⟩ prog_3_method_5_code 7 (some .int),
  .instanceMethod ⟨"FlowEquations$Program", "exchange", "(ILFlowEquations$Equation;)LFlowEquations$Equation;"⟩,
  .code ⟨"FlowEquations$Program", "exchange", "(ILFlowEquations$Equation;)LFlowEquations$Equation;"⟩ prog_4_method_2_code 4 (some (.object "FlowEquations$Equation")),
  .methodLink "FlowEquations" 79 ⟨"FlowEquations", "becomeUnready", "()V"⟩,
  .instanceMethod ⟨"FlowEquations", "becomeUnready", "()V"⟩,
  .code ⟨"FlowEquations", "becomeUnready", "()V"⟩ prog_1_method_14_code 1 none,
  .instanceMethod ⟨"FlowEquations$Run", "restart", "()V"⟩,
  .code ⟨"FlowEquations$Run", "restart", "()V"⟩ prog_5_method_2_code 2 none,
  .methodLink "FlowEquations$Run" 44 ⟨"java/util/Arrays", "fill", "([II)V"⟩,
  .methodLink "FlowEquationsLaw" 29 ⟨"FlowEquations", "drop", "(I)I"⟩,
  .instanceMethod ⟨"FlowEquations", "drop", "(I)I"⟩,
  .selects "FlowEquations" ⟨"FlowEquations", "drop", "(I)I"⟩ ⟨"FlowEquations", "drop", "(I)I"⟩,
  .code ⟨"FlowEquations", "drop", "(I)I"⟩ prog_1_method_5_code 2 (some .int),
  .instanceMethod ⟨"FlowEquations$Program", "defines", "(I)Z"⟩,
  .code ⟨"FlowEquations$Program", "defines", "(I)Z"⟩ prog_4_method_3_code 2 (some .boolean),
  .methodLink "FlowEquationsLaw" 33 ⟨"FlowEquations", "clock", "(II)I"⟩,
  .instanceMethod ⟨"FlowEquations", "clock", "(II)I"⟩,
  .selects "FlowEquations" ⟨"FlowEquations", "clock", "(II)I"⟩ ⟨"FlowEquations", "clock", "(II)I"⟩,
  .code ⟨"FlowEquations", "clock", "(II)I"⟩ prog_1_method_6_code 3 (some .int),
  .methodLink "FlowEquationsLaw" 38 ⟨"FlowEquations", "input", "(II)I"⟩,
  .instanceMethod ⟨"FlowEquations", "input", "(II)I"⟩,
  .selects "FlowEquations" ⟨"FlowEquations", "input", "(II)I"⟩ ⟨"FlowEquations", "input", "(II)I"⟩,
  .code ⟨"FlowEquations", "input", "(II)I"⟩ prog_1_method_7_code 3 (some .int),
  .methodLink "FlowEquationsLaw" 42 ⟨"FlowEquations", "check", "()I"⟩,
  .instanceMethod ⟨"FlowEquations", "check", "()I"⟩,
  .selects "FlowEquations" ⟨"FlowEquations", "check", "()I"⟩ ⟨"FlowEquations", "check", "()I"⟩,
  .code ⟨"FlowEquations", "check", "()I"⟩ prog_1_method_8_code 2 (some .int),
  .instanceMethod ⟨"FlowEquations$Checker", "firstFault", "()I"⟩,
  .code ⟨"FlowEquations$Checker", "firstFault", "()I"⟩ prog_2_method_2_code 2 (some .int),
  .methodLink "FlowEquations$Checker" 19 ⟨"FlowEquations$Checker", "leastMissing", "()I"⟩,
  .instanceMethod ⟨"FlowEquations$Checker", "leastMissing", "()I"⟩,
  .code ⟨"FlowEquations$Checker", "leastMissing", "()I"⟩ prog_2_method_4_code 3 (some .int),
  .instanceMethod ⟨"FlowEquations$Equation", "allNames", "()I"⟩,
  .code ⟨"FlowEquations$Equation", "allNames", "()I"⟩ prog_3_method_7_code 3 (some .int),
  .instanceMethod ⟨"FlowEquations$Program", "clockSet", "(I)I"⟩,
  .code ⟨"FlowEquations$Program", "clockSet", "(I)I"⟩ prog_4_method_6_code 2 (some .int),
  .static ⟨"FlowEquations", "contains", "(II)Z"⟩,
  .code ⟨"FlowEquations", "contains", "(II)Z"⟩ prog_1_method_16_code 2 (some .boolean),
  .methodLink "FlowEquations$Checker" 23 ⟨"FlowEquations$Checker", "faultAnswer", "(II)I"⟩,
  .static ⟨"FlowEquations$Checker", "faultAnswer", "(II)I"⟩,
  .code ⟨"FlowEquations$Checker", "faultAnswer", "(II)I"⟩ prog_2_method_3_code 2 (some .int),
  .methodLink "FlowEquations$Checker" 27 ⟨"FlowEquations$Checker", "leastOnClockRing", "()I"⟩,
  .instanceMethod ⟨"FlowEquations$Checker", "leastOnClockRing", "()I"⟩,
  .code ⟨"FlowEquations$Checker", "leastOnClockRing", "()I"⟩ prog_2_method_5_code 2 (some .int),
  .methodLink "FlowEquations$Checker" 59 ⟨"FlowEquations$Checker", "clocksLeadBackTo", "(I)Z"⟩,
  .instanceMethod ⟨"FlowEquations$Checker", "clocksLeadBackTo", "(I)Z"⟩,
  .code ⟨"FlowEquations$Checker", "clocksLeadBackTo", "(I)Z"⟩ prog_2_method_6_code 4 (some .boolean),
  .methodLink "FlowEquations$Checker" 30 ⟨"FlowEquations$Checker", "leastUnfit", "()I"⟩,
  .instanceMethod ⟨"FlowEquations$Checker", "leastUnfit", "()I"⟩,
  .code ⟨"FlowEquations$Checker", "leastUnfit", "()I"⟩ prog_2_method_7_code 2 (some .int),
  .instanceMethod ⟨"FlowEquations$Equation", "fits", "(I[I)Z"⟩,
  .code ⟨"FlowEquations$Equation", "fits", "(I[I)Z"⟩ prog_3_method_9_code 4 (some .boolean),
  .methodLink "FlowEquations$Equation" 88 ⟨"FlowEquations$Equation", "fitsAt", "(I[I)Z"⟩,
  .instanceMethod ⟨"FlowEquations$Equation", "fitsAt", "(I[I)Z"⟩,
  .code ⟨"FlowEquations$Equation", "fitsAt", "(I[I)Z"⟩ prog_3_method_10_code 5 (some .boolean),
  .methodLink "FlowEquations$Equation" 92 ⟨"FlowEquations$Equation", "handClockDown", "(I[I)V"⟩,
  .instanceMethod ⟨"FlowEquations$Equation", "handClockDown", "(I[I)V"⟩,
  .code ⟨"FlowEquations$Equation", "handClockDown", "(I[I)V"⟩ prog_3_method_11_code 6 none,
  .methodLink "FlowEquations$Checker" 33 ⟨"FlowEquations$Checker", "leastNeedingItself", "()I"⟩,
  .instanceMethod ⟨"FlowEquations$Checker", "leastNeedingItself", "()I"⟩,
  .code ⟨"FlowEquations$Checker", "leastNeedingItself", "()I"⟩ prog_2_method_8_code 2 (some .int),
  .methodLink "FlowEquations$Checker" 69 ⟨"FlowEquations$Checker", "gatherNeeds", "()V"⟩,
  .instanceMethod ⟨"FlowEquations$Checker", "gatherNeeds", "()V"⟩,
  .code ⟨"FlowEquations$Checker", "gatherNeeds", "()V"⟩ prog_2_method_9_code 3 none,
  .instanceMethod ⟨"FlowEquations$Equation", "namesOutsideP", "()I"⟩,
  .code ⟨"FlowEquations$Equation", "namesOutsideP", "()I"⟩ prog_3_method_8_code 3 (some .int),
  .instanceMethod ⟨"FlowEquations$Run", "arrange", "([I)V"⟩,
  .code ⟨"FlowEquations$Run", "arrange", "([I)V"⟩ prog_5_method_3_code 4 none,
  .methodLink "FlowEquations$Run" 65 ⟨"java/lang/Integer", "bitCount", "(I)I"⟩,
  .static ⟨"java/lang/Integer", "bitCount", "(I)I"⟩,
  .code ⟨"java/lang/Integer", "bitCount", "(I)I"⟩ prog_8_method_49_code 1 (some .int),
  .constant "java/lang/Integer" 265 (1431655765),
  .constant "java/lang/Integer" 266 (858993459),
  .constant "java/lang/Integer" 267 (252645135),
  .instanceMethod ⟨"FlowEquations$Program", "definedCount", "()I"⟩,
  .code ⟨"FlowEquations$Program", "definedCount", "()I"⟩ prog_4_method_4_code 3 (some .int),
  .methodLink "FlowEquations$Program" 30 ⟨"FlowEquations$Program", "defines", "(I)Z"⟩,
  .methodLink "FlowEquationsLaw" 47 ⟨"FlowEquations", "step", "(I)I"⟩,
  .instanceMethod ⟨"FlowEquations", "step", "(I)I"⟩,
  .selects "FlowEquations" ⟨"FlowEquations", "step", "(I)I"⟩ ⟨"FlowEquations", "step", "(I)I"⟩,
  .code ⟨"FlowEquations", "step", "(I)I"⟩ prog_1_method_9_code 3 (some .int),
  .instanceMethod ⟨"FlowEquations$Run", "passInstant", "()V"⟩,
  .code ⟨"FlowEquations$Run", "passInstant", "()V"⟩ prog_5_method_7_code 2 none,
  .methodLink "FlowEquations$Run" 75 ⟨"FlowEquations$Run", "settle", "(I)V"⟩,
  .instanceMethod ⟨"FlowEquations$Run", "settle", "(I)V"⟩,
  .code ⟨"FlowEquations$Run", "settle", "(I)V"⟩ prog_5_method_8_code 3 none,
  .methodLink "FlowEquations$Run" 86 ⟨"FlowEquations$Run", "isActive", "(I)Z"⟩,
  .instanceMethod ⟨"FlowEquations$Run", "isActive", "(I)Z"⟩,
  .code ⟨"FlowEquations$Run", "isActive", "(I)Z"⟩ prog_5_method_5_code 2 (some .boolean),
  .methodLink "FlowEquations$Run" 89 ⟨"FlowEquations$Run", "evaluate", "(LFlowEquations$Equation;)V"⟩,
  .instanceMethod ⟨"FlowEquations$Run", "evaluate", "(LFlowEquations$Equation;)V"⟩,
  .code ⟨"FlowEquations$Run", "evaluate", "(LFlowEquations$Equation;)V"⟩ prog_5_method_11_code 3 none,
  .methodLink "FlowEquations$Run" 118 ⟨"FlowEquations$Run", "valueAt", "(LFlowEquations$Equation;I)I"⟩,
  .instanceMethod ⟨"FlowEquations$Run", "valueAt", "(LFlowEquations$Equation;I)I"⟩,
  .code ⟨"FlowEquations$Run", "valueAt", "(LFlowEquations$Equation;I)I"⟩ prog_5_method_12_code 4 (some .int),
  .methodLink "FlowEquations$Run" 130 ⟨"FlowEquations$Run", "operatorValue", "(LFlowEquations$Equation;I)I"⟩,
  .instanceMethod ⟨"FlowEquations$Run", "operatorValue", "(LFlowEquations$Equation;I)I"⟩,
  .code ⟨"FlowEquations$Run", "operatorValue", "(LFlowEquations$Equation;I)I"⟩ prog_5_method_13_code 6 (some .int),
  .instanceMethod ⟨"FlowEquations$Equation", "partValue", "(II)I"⟩,
  .code ⟨"FlowEquations$Equation", "partValue", "(II)I"⟩ prog_3_method_12_code 4 (some .int),
  .methodLink "FlowEquations$Run" 133 ⟨"FlowEquations$Run", "hasBegun", "(I)Z"⟩,
  .instanceMethod ⟨"FlowEquations$Run", "hasBegun", "(I)Z"⟩,
  .code ⟨"FlowEquations$Run", "hasBegun", "(I)Z"⟩ prog_5_method_6_code 2 (some .boolean),
  .methodLink "FlowEquations$Run" 79 ⟨"FlowEquations$Run", "remember", "(LFlowEquations$Equation;)V"⟩,
  .instanceMethod ⟨"FlowEquations$Run", "remember", "(LFlowEquations$Equation;)V"⟩,
  .code ⟨"FlowEquations$Run", "remember", "(LFlowEquations$Equation;)V"⟩ prog_5_method_9_code 3 none,
  .instanceMethod ⟨"FlowEquations$Equation", "remembersAt", "(I)Z"⟩,
  .code ⟨"FlowEquations$Equation", "remembersAt", "(I)Z"⟩ prog_3_method_13_code 2 (some .boolean),
  .methodLink "FlowEquations$Run" 101 ⟨"FlowEquations$Run", "rememberingClock", "(LFlowEquations$Equation;I)I"⟩,
  .instanceMethod ⟨"FlowEquations$Run", "rememberingClock", "(LFlowEquations$Equation;I)I"⟩,
  .code ⟨"FlowEquations$Run", "rememberingClock", "(LFlowEquations$Equation;I)I"⟩ prog_5_method_10_code 3 (some .int),
  .methodLink "FlowEquationsLaw" 51 ⟨"FlowEquations", "value", "(I)J"⟩,
  .instanceMethod ⟨"FlowEquations", "value", "(I)J"⟩,
  .selects "FlowEquations" ⟨"FlowEquations", "value", "(I)J"⟩ ⟨"FlowEquations", "value", "(I)J"⟩,
  .code ⟨"FlowEquations", "value", "(I)J"⟩ prog_1_method_10_code 2 (some .long),
  .instanceMethod ⟨"FlowEquations$Run", "isPresent", "(I)Z"⟩,
  .code ⟨"FlowEquations$Run", "isPresent", "(I)Z"⟩ prog_5_method_4_code 2 (some .boolean),
  .constantLong "FlowEquations" 124 (-1000000000000),
  .methodLink "FlowEquationsLaw" 56 ⟨"FlowEquations", "present", "(I)I"⟩,
  .instanceMethod ⟨"FlowEquations", "present", "(I)I"⟩,
  .selects "FlowEquations" ⟨"FlowEquations", "present", "(I)I"⟩ ⟨"FlowEquations", "present", "(I)I"⟩,
  .code ⟨"FlowEquations", "present", "(I)I"⟩ prog_1_method_11_code 2 (some .int),
  .methodLink "FlowEquationsLaw" 60 ⟨"FlowEquations", "memory", "(II)J"⟩,
  .instanceMethod ⟨"FlowEquations", "memory", "(II)J"⟩,
  .selects "FlowEquations" ⟨"FlowEquations", "memory", "(II)J"⟩ ⟨"FlowEquations", "memory", "(II)J"⟩,
  .code ⟨"FlowEquations", "memory", "(II)J"⟩ prog_1_method_12_code 4 (some .long),
  .methodLink "FlowEquationsLaw" 65 ⟨"FlowEquations", "info", "(I)I"⟩,
  .instanceMethod ⟨"FlowEquations", "info", "(I)I"⟩,
  .selects "FlowEquations" ⟨"FlowEquations", "info", "(I)I"⟩ ⟨"FlowEquations", "info", "(I)I"⟩,
  .code ⟨"FlowEquations", "info", "(I)I"⟩ prog_1_method_13_code 2 (some .int),
  .instanceMethod ⟨"FlowEquations$Program", "characterCount", "()I"⟩,
  .code ⟨"FlowEquations$Program", "characterCount", "()I"⟩ prog_4_method_5_code 3 (some .int),
  .methodLink "FlowEquations" 144 ⟨"java/lang/Integer", "bitCount", "(I)I"⟩,
  .classLink "FlowEquationsLaw" 10 "FlowEquationsModel",
  .instantiable "FlowEquationsModel" 24,
  .methodLink "FlowEquationsLaw" 12 ⟨"FlowEquationsModel", "<init>", "()V"⟩,
  .instanceMethod ⟨"FlowEquationsModel", "<init>", "()V"⟩,
  .code ⟨"FlowEquationsModel", "<init>", "()V"⟩ prog_7_method_1_code 2 none,
  .methodLink "FlowEquationsModel" 1 ⟨"java/lang/Object", "<init>", "()V"⟩,
  .fieldLink "FlowEquationsModel" 7 "FlowEquationsModel" "line" "[I",
  .fieldLink "FlowEquationsModel" 85 "FlowEquationsModel" "length" "I",
  .fieldLink "FlowEquationsModel" 13 "FlowEquationsModel" "badPlace" "I",
  .fieldLink "FlowEquationsModel" 92 "FlowEquationsModel" "deepest" "I",
  .fieldLink "FlowEquationsModel" 17 "FlowEquationsModel" "code" "[I",
  .fieldLink "FlowEquationsModel" 20 "FlowEquationsModel" "size" "[I",
  .fieldLink "FlowEquationsModel" 23 "FlowEquationsModel" "end" "[I",
  .fieldLink "FlowEquationsModel" 26 "FlowEquationsModel" "fits" "[I",
  .fieldLink "FlowEquationsModel" 29 "FlowEquationsModel" "inside" "[I",
  .fieldLink "FlowEquationsModel" 32 "FlowEquationsModel" "val" "[I",
  .fieldLink "FlowEquationsModel" 35 "FlowEquationsModel" "memory" "[I",
  .fieldLink "FlowEquationsModel" 38 "FlowEquationsModel" "term" "[Z",
  .fieldLink "FlowEquationsModel" 42 "FlowEquationsModel" "lineTerm" "[Z",
  .fieldLink "FlowEquationsModel" 45 "FlowEquationsModel" "clock" "[I",
  .fieldLink "FlowEquationsModel" 48 "FlowEquationsModel" "input" "[I",
  .fieldLink "FlowEquationsModel" 103 "FlowEquationsModel" "ready" "Z",
  .fieldLink "FlowEquationsModel" 130 "FlowEquationsModel" "instants" "I",
  .fieldLink "FlowEquationsModel" 51 "FlowEquationsModel" "present" "[Z",
  .fieldLink "FlowEquationsModel" 54 "FlowEquationsModel" "done" "[Z",
  .fieldLink "FlowEquationsModel" 57 "FlowEquationsModel" "needs" "[Z",
  .fieldLink "FlowEquationsModel" 60 "FlowEquationsModel" "now" "[I",
  .fieldLink "FlowEquationsModel" 63 "FlowEquationsModel" "presences" "[I",
  .fieldLink "FlowEquationsModel" 66 "FlowEquationsModel" "actives" "[I",
  .fieldLink "FlowEquationsModel" 69 "FlowEquationsModel" "expected" "[I",
  .laysFinal "FlowEquationsModel" "FlowEquationsModel" "line" "[I",
  .lays "FlowEquationsModel" "FlowEquationsModel" "length" "I",
  .lays "FlowEquationsModel" "FlowEquationsModel" "badPlace" "I",
  .lays "FlowEquationsModel" "FlowEquationsModel" "deepest" "I",
  .laysFinal "FlowEquationsModel" "FlowEquationsModel" "code" "[I",
  .laysFinal "FlowEquationsModel" "FlowEquationsModel" "size" "[I",
  .laysFinal "FlowEquationsModel" "FlowEquationsModel" "end" "[I",
  .laysFinal "FlowEquationsModel" "FlowEquationsModel" "fits" "[I",
  .laysFinal "FlowEquationsModel" "FlowEquationsModel" "inside" "[I",
  .laysFinal "FlowEquationsModel" "FlowEquationsModel" "val" "[I",
  .laysFinal "FlowEquationsModel" "FlowEquationsModel" "memory" "[I",
  .laysFinal "FlowEquationsModel" "FlowEquationsModel" "term" "[Z",
  .laysFinal "FlowEquationsModel" "FlowEquationsModel" "lineTerm" "[Z",
  .laysFinal "FlowEquationsModel" "FlowEquationsModel" "clock" "[I",
  .laysFinal "FlowEquationsModel" "FlowEquationsModel" "input" "[I",
  .lays "FlowEquationsModel" "FlowEquationsModel" "ready" "Z",
  .lays "FlowEquationsModel" "FlowEquationsModel" "instants" "I",
  .laysFinal "FlowEquationsModel" "FlowEquationsModel" "present" "[Z",
  .laysFinal "FlowEquationsModel" "FlowEquationsModel" "done" "[Z",
  .laysFinal "FlowEquationsModel" "FlowEquationsModel" "needs" "[Z",
  .laysFinal "FlowEquationsModel" "FlowEquationsModel" "now" "[I",
  .laysFinal "FlowEquationsModel" "FlowEquationsModel" "presences" "[I",
  .laysFinal "FlowEquationsModel" "FlowEquationsModel" "actives" "[I",
  .laysFinal "FlowEquationsModel" "FlowEquationsModel" "expected" "[I",
  .methodLink "FlowEquationsLaw" 17 ⟨"FlowEquationsModel", "type", "(I)I"⟩,
  .instanceMethod ⟨"FlowEquationsModel", "type", "(I)I"⟩,
  .selects "FlowEquationsModel" ⟨"FlowEquationsModel", "type", "(I)I"⟩ ⟨"FlowEquationsModel", "type", "(I)I"⟩,
  .code ⟨"FlowEquationsModel", "type", "(I)I"⟩ prog_7_method_6_code 3 (some .int),
  .methodLink "FlowEquationsModel" 72 ⟨"FlowEquationsModel", "digit", "(I)Z"⟩,
  .static ⟨"FlowEquationsModel", "digit", "(I)Z"⟩,
  .code ⟨"FlowEquationsModel", "digit", "(I)Z"⟩ prog_7_method_2_code 1 (some .boolean),
  .methodLink "FlowEquationsModel" 76 ⟨"FlowEquationsModel", "variable", "(I)Z"⟩,
  .static ⟨"FlowEquationsModel", "variable", "(I)Z"⟩,
  .code ⟨"FlowEquationsModel", "variable", "(I)Z"⟩ prog_7_method_3_code 1 (some .boolean),
  .methodLink "FlowEquationsModel" 79 ⟨"FlowEquationsModel", "isInput", "(I)Z"⟩,
  .static ⟨"FlowEquationsModel", "isInput", "(I)Z"⟩,
  .code ⟨"FlowEquationsModel", "isInput", "(I)Z"⟩ prog_7_method_4_code 1 (some .boolean),
  .methodLink "FlowEquationsModel" 82 ⟨"FlowEquationsModel", "pair", "(I)Z"⟩,
  .static ⟨"FlowEquationsModel", "pair", "(I)Z"⟩,
  .code ⟨"FlowEquationsModel", "pair", "(I)Z"⟩ prog_7_method_5_code 1 (some .boolean),
  .methodLink "FlowEquationsLaw" 24 ⟨"FlowEquationsModel", "types", "(J)I"⟩,
  .instanceMethod ⟨"FlowEquationsModel", "types", "(J)I"⟩,
  .selects "FlowEquationsModel" ⟨"FlowEquationsModel", "types", "(J)I"⟩ ⟨"FlowEquationsModel", "types", "(J)I"⟩,
  .code ⟨"FlowEquationsModel", "types", "(J)I"⟩ prog_7_method_7_code 6 (some .int),
  .methodLink "FlowEquationsModel" 88 ⟨"FlowEquationsModel", "type", "(I)I"⟩,
  .methodLink "FlowEquationsLaw" 28 ⟨"FlowEquationsModel", "define", "(I)I"⟩,
  .instanceMethod ⟨"FlowEquationsModel", "define", "(I)I"⟩,
  .selects "FlowEquationsModel" ⟨"FlowEquationsModel", "define", "(I)I"⟩ ⟨"FlowEquationsModel", "define", "(I)I"⟩,
  .code ⟨"FlowEquationsModel", "define", "(I)I"⟩ prog_7_method_10_code 6 (some .int),
  .methodLink "FlowEquationsModel" 95 ⟨"FlowEquationsModel", "good", "()Z"⟩,
  .instanceMethod ⟨"FlowEquationsModel", "good", "()Z"⟩,
  .code ⟨"FlowEquationsModel", "good", "()Z"⟩ prog_7_method_8_code 7 (some .boolean),
  .methodLink "FlowEquationsModel" 99 ⟨"FlowEquationsModel", "findEnds", "(I)V"⟩,
  .instanceMethod ⟨"FlowEquationsModel", "findEnds", "(I)V"⟩,
  .code ⟨"FlowEquationsModel", "findEnds", "(I)V"⟩ prog_7_method_9_code 8 none,
  .methodLink "FlowEquationsLaw" 32 ⟨"FlowEquationsModel", "drop", "(I)I"⟩,
  .instanceMethod ⟨"FlowEquationsModel", "drop", "(I)I"⟩,
  .selects "FlowEquationsModel" ⟨"FlowEquationsModel", "drop", "(I)I"⟩ ⟨"FlowEquationsModel", "drop", "(I)I"⟩,
  .code ⟨"FlowEquationsModel", "drop", "(I)I"⟩ prog_7_method_11_code 2 (some .int),
  .methodLink "FlowEquationsLaw" 37 ⟨"FlowEquationsModel", "clock", "(II)I"⟩,
  .instanceMethod ⟨"FlowEquationsModel", "clock", "(II)I"⟩,
  .selects "FlowEquationsModel" ⟨"FlowEquationsModel", "clock", "(II)I"⟩ ⟨"FlowEquationsModel", "clock", "(II)I"⟩,
  .code ⟨"FlowEquationsModel", "clock", "(II)I"⟩ prog_7_method_12_code 3 (some .int),
  .methodLink "FlowEquationsLaw" 41 ⟨"FlowEquationsModel", "input", "(II)I"⟩,
  .instanceMethod ⟨"FlowEquationsModel", "input", "(II)I"⟩,
  .selects "FlowEquationsModel" ⟨"FlowEquationsModel", "input", "(II)I"⟩ ⟨"FlowEquationsModel", "input", "(II)I"⟩,
  .code ⟨"FlowEquationsModel", "input", "(II)I"⟩ prog_7_method_13_code 3 (some .int),
  .methodLink "FlowEquationsLaw" 46 ⟨"FlowEquationsModel", "check", "()I"⟩,
  .instanceMethod ⟨"FlowEquationsModel", "check", "()I"⟩,
  .selects "FlowEquationsModel" ⟨"FlowEquationsModel", "check", "()I"⟩ ⟨"FlowEquationsModel", "check", "()I"⟩,
  .code ⟨"FlowEquationsModel", "check", "()I"⟩ prog_7_method_21_code 4 (some .int),
  .methodLink "FlowEquationsModel" 115 ⟨"FlowEquationsModel", "missing", "(I)Z"⟩,
  .instanceMethod ⟨"FlowEquationsModel", "missing", "(I)Z"⟩,
  .code ⟨"FlowEquationsModel", "missing", "(I)Z"⟩ prog_7_method_17_code 4 (some .boolean),
  .methodLink "FlowEquationsModel" 118 ⟨"FlowEquationsModel", "circles", "(I)Z"⟩,
  .instanceMethod ⟨"FlowEquationsModel", "circles", "(I)Z"⟩,
  .code ⟨"FlowEquationsModel", "circles", "(I)Z"⟩ prog_7_method_18_code 4 (some .boolean),
  .methodLink "FlowEquationsModel" 121 ⟨"FlowEquationsModel", "fit", "(I)Z"⟩,
  .instanceMethod ⟨"FlowEquationsModel", "fit", "(I)Z"⟩,
  .code ⟨"FlowEquationsModel", "fit", "(I)Z"⟩ prog_7_method_16_code 11 (some .boolean),
  .methodLink "FlowEquationsModel" 107 ⟨"FlowEquationsModel", "about", "(II)I"⟩,
  .instanceMethod ⟨"FlowEquationsModel", "about", "(II)I"⟩,
  .code ⟨"FlowEquationsModel", "about", "(II)I"⟩ prog_7_method_15_code 4 (some .int),
  .methodLink "FlowEquationsModel" 111 ⟨"FlowEquationsModel", "child", "(III)I"⟩,
  .instanceMethod ⟨"FlowEquationsModel", "child", "(III)I"⟩,
  .code ⟨"FlowEquationsModel", "child", "(III)I"⟩ prog_7_method_14_code 6 (some .int),
  .methodLink "FlowEquationsModel" 124 ⟨"FlowEquationsModel", "findNeeds", "()V"⟩,
  .instanceMethod ⟨"FlowEquationsModel", "findNeeds", "()V"⟩,
  .code ⟨"FlowEquationsModel", "findNeeds", "()V"⟩ prog_7_method_19_code 4 none,
  .methodLink "FlowEquationsModel" 127 ⟨"FlowEquationsModel", "needsItself", "(I)Z"⟩,
  .instanceMethod ⟨"FlowEquationsModel", "needsItself", "(I)Z"⟩,
  .code ⟨"FlowEquationsModel", "needsItself", "(I)Z"⟩ prog_7_method_20_code 5 (some .boolean),
  .methodLink "FlowEquationsLaw" 50 ⟨"FlowEquationsModel", "step", "(I)I"⟩,
  .instanceMethod ⟨"FlowEquationsModel", "step", "(I)I"⟩,
  .selects "FlowEquationsModel" ⟨"FlowEquationsModel", "step", "(I)I"⟩ ⟨"FlowEquationsModel", "step", "(I)I"⟩,
  .code ⟨"FlowEquationsModel", "step", "(I)I"⟩ prog_7_method_27_code 3 (some .int),
  .methodLink "FlowEquationsModel" 145 ⟨"FlowEquationsModel", "instant", "()V"⟩,
  .instanceMethod ⟨"FlowEquationsModel", "instant", "()V"⟩,
  .code ⟨"FlowEquationsModel", "instant", "()V"⟩ prog_7_method_26_code 5 none,
  .methodLink "FlowEquationsModel" 139 ⟨"FlowEquationsModel", "canWork", "(I)Z"⟩,
  .instanceMethod ⟨"FlowEquationsModel", "canWork", "(I)Z"⟩,
  .code ⟨"FlowEquationsModel", "canWork", "(I)Z"⟩ prog_7_method_25_code 3 (some .boolean),
  .methodLink "FlowEquationsModel" 133 ⟨"FlowEquationsModel", "active", "(I)Z"⟩,
  .instanceMethod ⟨"FlowEquationsModel", "active", "(I)Z"⟩,
  .code ⟨"FlowEquationsModel", "active", "(I)Z"⟩ prog_7_method_22_code 2 (some .boolean),
  .methodLink "FlowEquationsModel" 142 ⟨"FlowEquationsModel", "workAll", "(I)V"⟩,
  .instanceMethod ⟨"FlowEquationsModel", "workAll", "(I)V"⟩,
  .code ⟨"FlowEquationsModel", "workAll", "(I)V"⟩ prog_7_method_24_code 3 none,
  .methodLink "FlowEquationsModel" 136 ⟨"FlowEquationsModel", "work", "(II)I"⟩,
  .instanceMethod ⟨"FlowEquationsModel", "work", "(II)I"⟩,
  .code ⟨"FlowEquationsModel", "work", "(II)I"⟩ prog_7_method_23_code 7 (some .int),
  .methodLink "FlowEquationsLaw" 55 ⟨"FlowEquationsModel", "value", "(I)J"⟩,
  .instanceMethod ⟨"FlowEquationsModel", "value", "(I)J"⟩,
  .selects "FlowEquationsModel" ⟨"FlowEquationsModel", "value", "(I)J"⟩ ⟨"FlowEquationsModel", "value", "(I)J"⟩,
  .code ⟨"FlowEquationsModel", "value", "(I)J"⟩ prog_7_method_29_code 2 (some .long),
  .methodLink "FlowEquationsModel" 148 ⟨"FlowEquationsModel", "seen", "(I)Z"⟩,
  .instanceMethod ⟨"FlowEquationsModel", "seen", "(I)Z"⟩,
  .code ⟨"FlowEquationsModel", "seen", "(I)Z"⟩ prog_7_method_28_code 2 (some .boolean),
  .constantLong "FlowEquationsModel" 151 (-1000000000000),
  .methodLink "FlowEquationsLaw" 59 ⟨"FlowEquationsModel", "present", "(I)I"⟩,
  .instanceMethod ⟨"FlowEquationsModel", "present", "(I)I"⟩,
  .selects "FlowEquationsModel" ⟨"FlowEquationsModel", "present", "(I)I"⟩ ⟨"FlowEquationsModel", "present", "(I)I"⟩,
  .code ⟨"FlowEquationsModel", "present", "(I)I"⟩ prog_7_method_30_code 2 (some .int),
  .methodLink "FlowEquationsLaw" 64 ⟨"FlowEquationsModel", "memory", "(II)J"⟩,
  .instanceMethod ⟨"FlowEquationsModel", "memory", "(II)J"⟩,
  .selects "FlowEquationsModel" ⟨"FlowEquationsModel", "memory", "(II)J"⟩ ⟨"FlowEquationsModel", "memory", "(II)J"⟩,
  .code ⟨"FlowEquationsModel", "memory", "(II)J"⟩ prog_7_method_31_code 4 (some .long),
  .methodLink "FlowEquationsLaw" 68 ⟨"FlowEquationsModel", "info", "(I)I"⟩,
  .instanceMethod ⟨"FlowEquationsModel", "info", "(I)I"⟩,
  .selects "FlowEquationsModel" ⟨"FlowEquationsModel", "info", "(I)I"⟩ ⟨"FlowEquationsModel", "info", "(I)I"⟩,
  .code ⟨"FlowEquationsModel", "info", "(I)I"⟩ prog_7_method_32_code 4 (some .int),
  .constantLong "FlowEquationsLaw" 18 (4294967295),
  .fieldLink "java/lang/String" 9 "java/lang/String" "value" "[B",
  .fieldLink "java/lang/String" 15 "java/lang/String" "coder" "B"]
def TBi : List Nat := [0, 1, 2, 3, 4, 5, 6, 7, 8, 9, 10, 11, 12, 13, 14, 15, 16, 17, 18, 19, 20, 21, 22, 23, 24, 25, 26, 27, 28, 29, 30, 31, 32, 33, 34, 35, 36, 37, 38, 39, 40, 41, 42, 43, 44, 45, 46, 47, 48, 49, 50, 51, 52, 53, 54, 55, 56, 57, 58, 59, 60, 61, 62, 63, 64, 65, 66, 67, 68, 69, 70, 71, 72, 73, 74, 75, 76, 78, 79, 80, 81, 83, 85, 86, 87, 88, 90, 94, 96, 98, 99, 101, 102, 103, 105, 107, 110, 112, 114, 116, 118, 120, 122, 124, 126, 128, 130, 133, 134, 135, 139, 143, 145, 148, 149, 151, 152, 153, 154, 155, 157, 159, 162, 163, 165, 166, 167, 168, 169, 171, 173, 175, 176, 177, 179, 180, 181, 183, 185, 187, 189, 191, 193, 195, 197, 199, 201, 204, 206, 207, 208, 209, 210, 211, 212, 213, 214, 216, 218, 220, 222, 224, 226, 228, 231, 232, 233, 234, 235, 236, 237, 238, 239, 240, 241, 242, 243, 244, 245, 246, 247, 248, 249, 251, 252, 253, 254, 255, 256, 257, 258, 259, 261, 262, 263, 264, 265, 266, 267, 268, 269, 270, 271, 272, 273, 274, 275, 277, 278, 279, 280, 281, 282, 283, 284, 285, 286, 287, 288, 289, 290, 291, 292, 293, 295, 297, 299, 300, 301, 302, 303, 304, 305, 306, 307, 308, 309, 310, 311, 314, 315, 316, 317, 318, 319, 320, 321, 322, 324, 325, 326, 328, 329, 331, 332, 333, 334, 335, 337, 339, 340, 341, 343, 344, 347, 348, 349, 351, 352, 355, 356, 357, 358, 359, 360, 361, 364, 365, 367, 368, 369, 370, 371, 372, 373, 374, 375, 376, 377, 378, 381, 382, 383, 385, 386, 390, 391, 394, 395, 397, 398, 399, 400, 401, 402, 404, 405, 406, 408, 409, 410, 412, 413, 416, 417, 418, 420, 421, 423, 425, 426, 427, 429, 430, 431, 433, 434, 437, 438, 441, 442, 444, 445, 446, 447, 448, 449, 452, 453, 454, 455, 456, 457, 458, 461, 462, 463, 465, 466, 467, 469, 470, 471, 473, 474, 475, 477, 478, 482, 484, 485, 488, 489, 490, 492, 493, 494, 496, 497, 500, 501, 502, 504, 505, 506, 507, 508, 509, 512, 513, 515, 516, 517, 518, 519, 520, 521, 522, 523, 525, 526, 527, 528, 531, 532, 533, 534, 535, 536, 537, 538, 539, 540, 541, 542, 543, 544, 545, 546, 547, 548, 549, 550, 551, 552, 553, 554, 555, 556, 557, 558, 559, 560, 561, 562, 563, 564, 566, 568, 570, 572, 574, 576, 578, 580, 582, 584, 586, 588, 590, 592, 594, 596, 598, 600, 602, 604, 606, 608, 610, 613, 614, 615, 616, 617, 618, 619, 620, 621, 622, 623, 624, 625, 626, 627, 628, 629, 630, 631, 632, 633, 634, 635, 636, 637, 638, 640, 641, 642, 644, 645, 646, 647, 648, 649, 650, 651, 652, 653, 654, 655, 656, 657, 658, 659, 660, 661, 662, 664, 665, 666, 668, 669, 670, 672, 673, 674, 676, 677, 678, 680, 681, 682, 684, 685, 686, 688, 689, 690, 691, 692, 693, 694, 696, 697, 698, 700, 701, 702, 704, 705, 706, 708, 709, 710, 712, 713, 714, 715, 716, 717, 718, 720, 721, 722, 723, 724, 725, 726, 727, 728, 729, 730, 731, 732, 733, 734, 735, 736, 737]
set_option maxRecDepth 100000 in
theorem TB_eq : TB = TBi.filterMap (fun i => lw_tbl[i]?) := rfl
theorem TB_all : TB.all goodWord = true := by decide +kernel
theorem TB_good : ∀ w ∈ TB, (w.onTables && w.keeps) = true ∨ ∃ ty, w = .arrayClass ty := fun w h => good_of_word (List.all_eq_true.mp TB_all w h)
theorem TB_in : ∀ w ∈ TB, w ∈ lw_tbl := by
  intro w hw
  rw [TB_eq] at hw
  obtain ⟨i, -, hi⟩ := List.mem_filterMap.mp hw
  exact List.mem_of_getElem? hi
def NW : List Cond := [
  .methodLinkNest "FlowEquations" 22 ⟨"FlowEquations$Program", "<init>", "()V"⟩ "FlowEquations",
  .methodLinkNest "FlowEquations$Program" 21 ⟨"FlowEquations$Equation", "<init>", "()V"⟩ "FlowEquations",
  .fieldLinkNest "FlowEquations$Run" 109 "FlowEquations$Equation" "text" "[I" "FlowEquations",
  .fieldLinkNest "FlowEquations$Program" 26 "FlowEquations$Equation" "length" "I" "FlowEquations",
  .fieldLinkNest "FlowEquations" 89 "FlowEquations$Equation" "length" "I" "FlowEquations",
  .fieldLinkNest "FlowEquations$Run" 95 "FlowEquations$Equation" "length" "I" "FlowEquations",
  .fieldLinkNest "FlowEquations" 72 "FlowEquations$Equation" "depth" "I" "FlowEquations",
  .fieldLinkNest "FlowEquations" 69 "FlowEquations$Equation" "badPlace" "I" "FlowEquations",
  .fieldLinkNest "FlowEquations$Run" 112 "FlowEquations$Equation" "named" "[I" "FlowEquations",
  .fieldLinkNest "FlowEquations$Run" 115 "FlowEquations$Equation" "termClocks" "[I" "FlowEquations",
  .fieldLinkNest "FlowEquations$Run" 92 "FlowEquations$Equation" "termValues" "[I" "FlowEquations",
  .fieldLinkNest "FlowEquations$Run" 56 "FlowEquations$Equation" "memories" "[I" "FlowEquations",
  .fieldLinkNest "FlowEquations" 135 "FlowEquations$Equation" "memories" "[I" "FlowEquations",
  .fieldLinkNest "FlowEquations$Run" 50 "FlowEquations$Program" "equations" "[LFlowEquations$Equation;" "FlowEquations",
  .fieldLinkNest "FlowEquations$Checker" 42 "FlowEquations$Program" "equations" "[LFlowEquations$Equation;" "FlowEquations",
  .fieldLinkNest "FlowEquations" 85 "FlowEquations$Program" "equations" "[LFlowEquations$Equation;" "FlowEquations",
  .fieldLinkNest "FlowEquations$Checker" 62 "FlowEquations$Program" "clocks" "[I" "FlowEquations",
  .fieldLinkNest "FlowEquations" 92 "FlowEquations$Program" "clocks" "[I" "FlowEquations",
  .fieldLinkNest "FlowEquations$Run" 83 "FlowEquations$Program" "clocks" "[I" "FlowEquations",
  .methodLinkNest "FlowEquations" 29 ⟨"FlowEquations$Checker", "<init>", "(LFlowEquations$Program;)V"⟩ "FlowEquations",
  .fieldLinkNest "FlowEquations" 105 "FlowEquations$Checker" "needs" "[I" "FlowEquations",
  .methodLinkNest "FlowEquations" 38 ⟨"FlowEquations$Run", "<init>", "(LFlowEquations$Program;)V"⟩ "FlowEquations",
  .fieldLinkNest "FlowEquations" 95 "FlowEquations$Run" "inputs" "[I" "FlowEquations",
  .fieldLinkNest "FlowEquations" 126 "FlowEquations$Run" "values" "[I" "FlowEquations",
  .fieldLinkNest "FlowEquations" 129 "FlowEquations$Run" "presences" "[I" "FlowEquations",
  .fieldLinkNest "FlowEquations" 141 "FlowEquations$Run" "presentNow" "I" "FlowEquations",
  .fieldLinkNest "FlowEquations" 118 "FlowEquations$Run" "instants" "I" "FlowEquations",
  .methodLinkNest "FlowEquations" 45 ⟨"FlowEquations$Equation", "<init>", "()V"⟩ "FlowEquations",
  .methodLinkNest "FlowEquations" 65 ⟨"FlowEquations$Equation", "readLine", "([II)Z"⟩ "FlowEquations",
  .methodLinkNest "FlowEquations$Equation" 84 ⟨"FlowEquations", "partCount", "(I)I"⟩ "FlowEquations",
  .methodLinkNest "FlowEquations$Equation" 73 ⟨"FlowEquations", "isVariableName", "(I)Z"⟩ "FlowEquations",
  .methodLinkNest "FlowEquations" 75 ⟨"FlowEquations$Program", "exchange", "(ILFlowEquations$Equation;)LFlowEquations$Equation;"⟩ "FlowEquations",
  .methodLinkNest "FlowEquations" 98 ⟨"FlowEquations$Run", "restart", "()V"⟩ "FlowEquations",
  .methodLinkNest "FlowEquations" 82 ⟨"FlowEquations$Program", "defines", "(I)Z"⟩ "FlowEquations",
  .methodLinkNest "FlowEquations$Program" 22 ⟨"FlowEquations", "isVariable", "(I)Z"⟩ "FlowEquations",
  .methodLinkNest "FlowEquations" 101 ⟨"FlowEquations$Checker", "firstFault", "()I"⟩ "FlowEquations",
  .methodLinkNest "FlowEquations$Checker" 36 ⟨"FlowEquations$Program", "defines", "(I)Z"⟩ "FlowEquations",
  .methodLinkNest "FlowEquations$Checker" 46 ⟨"FlowEquations$Equation", "allNames", "()I"⟩ "FlowEquations",
  .methodLinkNest "FlowEquations$Checker" 51 ⟨"FlowEquations$Program", "clockSet", "(I)I"⟩ "FlowEquations",
  .methodLinkNest "FlowEquations$Checker" 55 ⟨"FlowEquations", "contains", "(II)Z"⟩ "FlowEquations",
  .methodLinkNest "FlowEquations$Checker" 65 ⟨"FlowEquations$Equation", "fits", "(I[I)Z"⟩ "FlowEquations",
  .methodLinkNest "FlowEquations$Equation" 96 ⟨"FlowEquations", "isInputName", "(I)Z"⟩ "FlowEquations",
  .methodLinkNest "FlowEquations$Checker" 72 ⟨"FlowEquations$Equation", "namesOutsideP", "()I"⟩ "FlowEquations",
  .methodLinkNest "FlowEquations" 108 ⟨"FlowEquations$Run", "arrange", "([I)V"⟩ "FlowEquations",
  .methodLinkNest "FlowEquations$Run" 61 ⟨"FlowEquations$Program", "defines", "(I)Z"⟩ "FlowEquations",
  .methodLinkNest "FlowEquations" 112 ⟨"FlowEquations$Program", "definedCount", "()I"⟩ "FlowEquations",
  .methodLinkNest "FlowEquations" 115 ⟨"FlowEquations$Run", "passInstant", "()V"⟩ "FlowEquations",
  .methodLinkNest "FlowEquations$Run" 121 ⟨"FlowEquations", "isDigit", "(I)Z"⟩ "FlowEquations",
  .methodLinkNest "FlowEquations$Run" 124 ⟨"FlowEquations", "isVariableName", "(I)Z"⟩ "FlowEquations",
  .methodLinkNest "FlowEquations$Run" 127 ⟨"FlowEquations", "isInputName", "(I)Z"⟩ "FlowEquations",
  .methodLinkNest "FlowEquations$Run" 105 ⟨"FlowEquations$Equation", "partValue", "(II)I"⟩ "FlowEquations",
  .methodLinkNest "FlowEquations$Run" 98 ⟨"FlowEquations$Equation", "remembersAt", "(I)Z"⟩ "FlowEquations",
  .methodLinkNest "FlowEquations" 121 ⟨"FlowEquations$Run", "isPresent", "(I)Z"⟩ "FlowEquations",
  .methodLinkNest "FlowEquations$Run" 71 ⟨"FlowEquations", "contains", "(II)Z"⟩ "FlowEquations",
  .methodLinkNest "FlowEquations" 132 ⟨"FlowEquations$Equation", "remembersAt", "(I)Z"⟩ "FlowEquations",
  .methodLinkNest "FlowEquations" 138 ⟨"FlowEquations$Program", "characterCount", "()I"⟩ "FlowEquations"]
def NWi : List Nat := [77, 84, 89, 91, 92, 93, 95, 97, 100, 104, 106, 108, 109, 136, 137, 138, 140, 141, 142, 150, 156, 164, 170, 172, 174, 178, 182, 205, 312, 330, 336, 345, 353, 362, 366, 379, 387, 388, 392, 396, 414, 422, 435, 439, 443, 450, 459, 479, 480, 481, 486, 498, 510, 514, 524, 529]
set_option maxRecDepth 100000 in
theorem NW_eq : NW = NWi.filterMap (fun i => lw_tbl[i]?) := rfl
theorem NW_in : ∀ w ∈ NW, w ∈ lw_tbl := by
  intro w hw
  rw [NW_eq] at hw
  obtain ⟨i, -, hi⟩ := List.mem_filterMap.mp hw
  exact List.mem_of_getElem? hi
def isNw : Cond → Bool
  | .fieldLinkNest _ _ _ _ _ _ => true
  | .methodLinkNest _ _ _ _ => true
  | _ => false
theorem NW_is : NW.all isNw = true := by decide +kernel
theorem NW_warm {u U : State} (hW : u.WarmedH U.vm) {w : Cond} (hw : w ∈ NW) (h : va_Nw w u) : va_Nw w U := by
  have h1 := List.all_eq_true.mp NW_is w hw
  cases w <;> first | (cases h1; done) | exact va_Nw.warmF hW h | exact va_Nw.warmM hW h
theorem NW_tab {w : Cond} (hw : w ∈ NW) : w.onTables = true := by
  have h1 := List.all_eq_true.mp NW_is w hw
  cases w <;> first | (cases h1; done) | rfl
def AOL : List String := ["FlowEquations$Equation"]
def Tc_0 : u_T := fun k => match k with
  | 0 => ("FlowEquations", "line", "[I", true)
  | 1 => ("FlowEquations", "lineLength", "I", false)
  | 2 => ("FlowEquations", "latestBadPlace", "I", false)
  | 3 => ("FlowEquations", "program", "LFlowEquations$Program;", true)
  | 4 => ("FlowEquations", "checker", "LFlowEquations$Checker;", true)
  | 5 => ("FlowEquations", "run", "LFlowEquations$Run;", true)
  | 6 => ("FlowEquations", "draft", "LFlowEquations$Equation;", false)
  | _ => ("FlowEquations", "ready", "Z", false)
def tc_0 : Nat → FieldType := fun k => match k with
  | 0 => .array .int
  | 1 => .int
  | 2 => .int
  | 3 => .object "FlowEquations$Program"
  | 4 => .object "FlowEquations$Checker"
  | 5 => .object "FlowEquations$Run"
  | 6 => .object "FlowEquations$Equation"
  | _ => .boolean
def Tc_1 : u_T := fun k => match k with
  | 0 => ("FlowEquations$Checker", "program", "LFlowEquations$Program;", true)
  | _ => ("FlowEquations$Checker", "needs", "[I", true)
def tc_1 : Nat → FieldType := fun k => match k with
  | 0 => .object "FlowEquations$Program"
  | _ => .array .int
def Tc_2 : u_T := fun k => match k with
  | 0 => ("FlowEquations$Equation", "text", "[I", true)
  | 1 => ("FlowEquations$Equation", "length", "I", false)
  | 2 => ("FlowEquations$Equation", "depth", "I", false)
  | 3 => ("FlowEquations$Equation", "badPlace", "I", false)
  | 4 => ("FlowEquations$Equation", "parts", "[I", true)
  | 5 => ("FlowEquations$Equation", "named", "[I", true)
  | 6 => ("FlowEquations$Equation", "isTerm", "[Z", true)
  | 7 => ("FlowEquations$Equation", "insideP", "[Z", true)
  | 8 => ("FlowEquations$Equation", "termClocks", "[I", true)
  | 9 => ("FlowEquations$Equation", "termValues", "[I", true)
  | _ => ("FlowEquations$Equation", "memories", "[I", true)
def tc_2 : Nat → FieldType := fun k => match k with
  | 0 => .array .int
  | 1 => .int
  | 2 => .int
  | 3 => .int
  | 4 => .array .int
  | 5 => .array .int
  | 6 => .array .boolean
  | 7 => .array .boolean
  | 8 => .array .int
  | 9 => .array .int
  | _ => .array .int
def Tc_3 : u_T := fun k => match k with
  | 0 => ("FlowEquations$Program", "equations", "[LFlowEquations$Equation;", true)
  | _ => ("FlowEquations$Program", "clocks", "[I", true)
def tc_3 : Nat → FieldType := fun k => match k with
  | 0 => .array (.object "FlowEquations$Equation")
  | _ => .array .int
def Tc_4 : u_T := fun k => match k with
  | 0 => ("FlowEquations$Run", "program", "LFlowEquations$Program;", true)
  | 1 => ("FlowEquations$Run", "inputs", "[I", true)
  | 2 => ("FlowEquations$Run", "values", "[I", true)
  | 3 => ("FlowEquations$Run", "presences", "[I", true)
  | 4 => ("FlowEquations$Run", "order", "[I", true)
  | 5 => ("FlowEquations$Run", "ordered", "I", false)
  | 6 => ("FlowEquations$Run", "presentNow", "I", false)
  | 7 => ("FlowEquations$Run", "activeNow", "I", false)
  | 8 => ("FlowEquations$Run", "begunClocks", "I", false)
  | _ => ("FlowEquations$Run", "instants", "I", false)
def tc_4 : Nat → FieldType := fun k => match k with
  | 0 => .object "FlowEquations$Program"
  | 1 => .array .int
  | 2 => .array .int
  | 3 => .array .int
  | 4 => .array .int
  | 5 => .int
  | 6 => .int
  | 7 => .int
  | 8 => .int
  | _ => .int
def Tc_5 : u_T := fun k => match k with
  | 0 => ("FlowEquationsModel", "line", "[I", true)
  | 1 => ("FlowEquationsModel", "length", "I", false)
  | 2 => ("FlowEquationsModel", "badPlace", "I", false)
  | 3 => ("FlowEquationsModel", "deepest", "I", false)
  | 4 => ("FlowEquationsModel", "code", "[I", true)
  | 5 => ("FlowEquationsModel", "size", "[I", true)
  | 6 => ("FlowEquationsModel", "end", "[I", true)
  | 7 => ("FlowEquationsModel", "fits", "[I", true)
  | 8 => ("FlowEquationsModel", "inside", "[I", true)
  | 9 => ("FlowEquationsModel", "val", "[I", true)
  | 10 => ("FlowEquationsModel", "memory", "[I", true)
  | 11 => ("FlowEquationsModel", "term", "[Z", true)
  | 12 => ("FlowEquationsModel", "lineTerm", "[Z", true)
  | 13 => ("FlowEquationsModel", "clock", "[I", true)
  | 14 => ("FlowEquationsModel", "input", "[I", true)
  | 15 => ("FlowEquationsModel", "ready", "Z", false)
  | 16 => ("FlowEquationsModel", "instants", "I", false)
  | 17 => ("FlowEquationsModel", "present", "[Z", true)
  | 18 => ("FlowEquationsModel", "done", "[Z", true)
  | 19 => ("FlowEquationsModel", "needs", "[Z", true)
  | 20 => ("FlowEquationsModel", "now", "[I", true)
  | 21 => ("FlowEquationsModel", "presences", "[I", true)
  | 22 => ("FlowEquationsModel", "actives", "[I", true)
  | _ => ("FlowEquationsModel", "expected", "[I", true)
def tc_5 : Nat → FieldType := fun k => match k with
  | 0 => .array .int
  | 1 => .int
  | 2 => .int
  | 3 => .int
  | 4 => .array .int
  | 5 => .array .int
  | 6 => .array .int
  | 7 => .array .int
  | 8 => .array .int
  | 9 => .array .int
  | 10 => .array .int
  | 11 => .array .boolean
  | 12 => .array .boolean
  | 13 => .array .int
  | 14 => .array .int
  | 15 => .boolean
  | 16 => .int
  | 17 => .array .boolean
  | 18 => .array .boolean
  | 19 => .array .boolean
  | 20 => .array .int
  | 21 => .array .int
  | 22 => .array .int
  | _ => .array .int
def clT : List vw_C := [("FlowEquations", Tc_0, 8), ("FlowEquations$Checker", Tc_1, 2), ("FlowEquations$Equation", Tc_2, 11), ("FlowEquations$Program", Tc_3, 2), ("FlowEquations$Run", Tc_4, 10), ("FlowEquationsModel", Tc_5, 24)]
def nF (ci : Nat) : Nat := ([8, 2, 11, 2, 10, 24] : List Nat).getD ci 0
def tyF (ci k : Nat) : FieldType := match ci with
  | 0 => tc_0 k
  | 1 => tc_1 k
  | 2 => tc_2 k
  | 3 => tc_3 k
  | 4 => tc_4 k
  | _ => tc_5 k
set_option maxRecDepth 20000 in
theorem clk_0 : clOK clT TB tyF 0 "FlowEquations" Tc_0 8 := ⟨rfl, by decide +kernel, by decide +kernel, by decide +kernel⟩
set_option maxRecDepth 20000 in
theorem clk_1 : clOK clT TB tyF 1 "FlowEquations$Checker" Tc_1 2 := ⟨rfl, by decide +kernel, by decide +kernel, by decide +kernel⟩
set_option maxRecDepth 20000 in
theorem clk_2 : clOK clT TB tyF 2 "FlowEquations$Equation" Tc_2 11 := ⟨rfl, by decide +kernel, by decide +kernel, by decide +kernel⟩
set_option maxRecDepth 20000 in
theorem clk_3 : clOK clT TB tyF 3 "FlowEquations$Program" Tc_3 2 := ⟨rfl, by decide +kernel, by decide +kernel, by decide +kernel⟩
set_option maxRecDepth 20000 in
theorem clk_4 : clOK clT TB tyF 4 "FlowEquations$Run" Tc_4 10 := ⟨rfl, by decide +kernel, by decide +kernel, by decide +kernel⟩
set_option maxRecDepth 20000 in
theorem clk_5 : clOK clT TB tyF 5 "FlowEquationsModel" Tc_5 24 := ⟨rfl, by decide +kernel, by decide +kernel, by decide +kernel⟩
theorem clT_ok {ci : Nat} {C : String} {T : u_T} {N : Nat} (h : clT[ci]? = some (C, T, N)) : clOK clT TB tyF ci C T N := by
  match ci, h with
  | 0, h => cases h; exact clk_0
  | 1, h => cases h; exact clk_1
  | 2, h => cases h; exact clk_2
  | 3, h => cases h; exact clk_3
  | 4, h => cases h; exact clk_4
  | 5, h => cases h; exact clk_5
  | n + 6, h => simp [clT] at h
def srtL : List Nat := [0, 1, 12]
def tyT (t : Nat) : FieldType := match t with
  | 0 => .int
  | 1 => .boolean
  | _ => .object "FlowEquations$Equation"
def nM : Nat := 97
def nmL : List MethodName := [
  ⟨"FlowEquations", "<init>", "()V"⟩,
  ⟨"FlowEquations$Program", "<init>", "()V"⟩,
  ⟨"FlowEquations$Equation", "<init>", "()V"⟩,
  ⟨"FlowEquations$Checker", "<init>", "(LFlowEquations$Program;)V"⟩,
  ⟨"FlowEquations$Run", "<init>", "(LFlowEquations$Program;)V"⟩,
  ⟨"FlowEquations", "type", "(I)I"⟩,
  ⟨"FlowEquations", "isOfLine", "(I)Z"⟩,
  ⟨"FlowEquations", "isDigit", "(I)Z"⟩,
  ⟨"FlowEquations", "isVariableName", "(I)Z"⟩,
  ⟨"FlowEquations", "isInputName", "(I)Z"⟩,
  ⟨"FlowEquations", "types", "(J)I"⟩,
  ⟨"FlowEquations", "define", "(I)I"⟩,
  ⟨"FlowEquations", "isVariable", "(I)Z"⟩,
  ⟨"FlowEquations$Equation", "readLine", "([II)Z"⟩,
  ⟨"java/util/Arrays", "fill", "([II)V"⟩,
  ⟨"FlowEquations$Equation", "readTerm", "(IIZ)I"⟩,
  ⟨"FlowEquations$Equation", "mayBeginTerm", "(II)Z"⟩,
  ⟨"FlowEquations", "partCount", "(I)I"⟩,
  ⟨"java/lang/Math", "max", "(II)I"⟩,
  ⟨"FlowEquations$Equation", "readName", "(II)I"⟩,
  ⟨"FlowEquations$Equation", "readParts", "(III)I"⟩,
  ⟨"FlowEquations$Program", "exchange", "(ILFlowEquations$Equation;)LFlowEquations$Equation;"⟩,
  ⟨"FlowEquations", "becomeUnready", "()V"⟩,
  ⟨"FlowEquations$Run", "restart", "()V"⟩,
  ⟨"FlowEquations", "drop", "(I)I"⟩,
  ⟨"FlowEquations$Program", "defines", "(I)Z"⟩,
  ⟨"FlowEquations", "clock", "(II)I"⟩,
  ⟨"FlowEquations", "input", "(II)I"⟩,
  ⟨"FlowEquations", "check", "()I"⟩,
  ⟨"FlowEquations$Checker", "firstFault", "()I"⟩,
  ⟨"FlowEquations$Checker", "leastMissing", "()I"⟩,
  ⟨"FlowEquations$Equation", "allNames", "()I"⟩,
  ⟨"FlowEquations$Program", "clockSet", "(I)I"⟩,
  ⟨"FlowEquations", "contains", "(II)Z"⟩,
  ⟨"FlowEquations$Checker", "faultAnswer", "(II)I"⟩,
  ⟨"FlowEquations$Checker", "leastOnClockRing", "()I"⟩,
  ⟨"FlowEquations$Checker", "clocksLeadBackTo", "(I)Z"⟩,
  ⟨"FlowEquations$Checker", "leastUnfit", "()I"⟩,
  ⟨"FlowEquations$Equation", "fits", "(I[I)Z"⟩,
  ⟨"FlowEquations$Equation", "fitsAt", "(I[I)Z"⟩,
  ⟨"FlowEquations$Equation", "handClockDown", "(I[I)V"⟩,
  ⟨"FlowEquations$Checker", "leastNeedingItself", "()I"⟩,
  ⟨"FlowEquations$Checker", "gatherNeeds", "()V"⟩,
  ⟨"FlowEquations$Equation", "namesOutsideP", "()I"⟩,
  ⟨"FlowEquations$Run", "arrange", "([I)V"⟩,
  ⟨"java/lang/Integer", "bitCount", "(I)I"⟩,
  ⟨"FlowEquations$Program", "definedCount", "()I"⟩,
  ⟨"FlowEquations", "step", "(I)I"⟩,
  ⟨"FlowEquations$Run", "passInstant", "()V"⟩,
  ⟨"FlowEquations$Run", "settle", "(I)V"⟩,
  ⟨"FlowEquations$Run", "isActive", "(I)Z"⟩,
  ⟨"FlowEquations$Run", "evaluate", "(LFlowEquations$Equation;)V"⟩,
  ⟨"FlowEquations$Run", "valueAt", "(LFlowEquations$Equation;I)I"⟩,
  ⟨"FlowEquations$Run", "operatorValue", "(LFlowEquations$Equation;I)I"⟩,
  ⟨"FlowEquations$Equation", "partValue", "(II)I"⟩,
  ⟨"FlowEquations$Run", "hasBegun", "(I)Z"⟩,
  ⟨"FlowEquations$Run", "remember", "(LFlowEquations$Equation;)V"⟩,
  ⟨"FlowEquations$Equation", "remembersAt", "(I)Z"⟩,
  ⟨"FlowEquations$Run", "rememberingClock", "(LFlowEquations$Equation;I)I"⟩,
  ⟨"FlowEquations", "value", "(I)J"⟩,
  ⟨"FlowEquations$Run", "isPresent", "(I)Z"⟩,
  ⟨"FlowEquations", "present", "(I)I"⟩,
  ⟨"FlowEquations", "memory", "(II)J"⟩,
  ⟨"FlowEquations", "info", "(I)I"⟩,
  ⟨"FlowEquations$Program", "characterCount", "()I"⟩,
  ⟨"FlowEquationsModel", "<init>", "()V"⟩,
  ⟨"FlowEquationsModel", "type", "(I)I"⟩,
  ⟨"FlowEquationsModel", "digit", "(I)Z"⟩,
  ⟨"FlowEquationsModel", "variable", "(I)Z"⟩,
  ⟨"FlowEquationsModel", "isInput", "(I)Z"⟩,
  ⟨"FlowEquationsModel", "pair", "(I)Z"⟩,
  ⟨"FlowEquationsModel", "types", "(J)I"⟩,
  ⟨"FlowEquationsModel", "define", "(I)I"⟩,
  ⟨"FlowEquationsModel", "good", "()Z"⟩,
  ⟨"FlowEquationsModel", "findEnds", "(I)V"⟩,
  ⟨"FlowEquationsModel", "drop", "(I)I"⟩,
  ⟨"FlowEquationsModel", "clock", "(II)I"⟩,
  ⟨"FlowEquationsModel", "input", "(II)I"⟩,
  ⟨"FlowEquationsModel", "check", "()I"⟩,
  ⟨"FlowEquationsModel", "missing", "(I)Z"⟩,
  ⟨"FlowEquationsModel", "circles", "(I)Z"⟩,
  ⟨"FlowEquationsModel", "fit", "(I)Z"⟩,
  ⟨"FlowEquationsModel", "about", "(II)I"⟩,
  ⟨"FlowEquationsModel", "child", "(III)I"⟩,
  ⟨"FlowEquationsModel", "findNeeds", "()V"⟩,
  ⟨"FlowEquationsModel", "needsItself", "(I)Z"⟩,
  ⟨"FlowEquationsModel", "step", "(I)I"⟩,
  ⟨"FlowEquationsModel", "instant", "()V"⟩,
  ⟨"FlowEquationsModel", "canWork", "(I)Z"⟩,
  ⟨"FlowEquationsModel", "active", "(I)Z"⟩,
  ⟨"FlowEquationsModel", "workAll", "(I)V"⟩,
  ⟨"FlowEquationsModel", "work", "(II)I"⟩,
  ⟨"FlowEquationsModel", "value", "(I)J"⟩,
  ⟨"FlowEquationsModel", "seen", "(I)Z"⟩,
  ⟨"FlowEquationsModel", "present", "(I)I"⟩,
  ⟨"FlowEquationsModel", "memory", "(II)J"⟩,
  ⟨"FlowEquationsModel", "info", "(I)I"⟩,
  ⟨"FlowEquationsLaw", "law", "([I)Z"⟩]
def nmM (M : Nat) : MethodName := nmL.getD M x
def codL : List ByteArray := [prog_1_method_1_code, prog_4_method_1_code, prog_3_method_1_code, prog_2_method_1_code, prog_5_method_1_code, prog_1_method_2_code, prog_1_method_17_code, prog_1_method_18_code, prog_1_method_19_code, prog_1_method_20_code, prog_1_method_3_code, prog_1_method_4_code, prog_1_method_15_code, prog_3_method_2_code, prog_14_method_103_code, prog_3_method_3_code, prog_3_method_4_code, prog_1_method_22_code, prog_9_method_65_code, prog_3_method_6_code, prog_3_method_5_code, prog_4_method_2_code, prog_1_method_14_code, prog_5_method_2_code, prog_1_method_5_code, prog_4_method_3_code, prog_1_method_6_code, prog_1_method_7_code, prog_1_method_8_code, prog_2_method_2_code, prog_2_method_4_code, prog_3_method_7_code, prog_4_method_6_code, prog_1_method_16_code, prog_2_method_3_code, prog_2_method_5_code, prog_2_method_6_code, prog_2_method_7_code, prog_3_method_9_code, prog_3_method_10_code, prog_3_method_11_code, prog_2_method_8_code, prog_2_method_9_code, prog_3_method_8_code, prog_5_method_3_code, prog_8_method_49_code, prog_4_method_4_code, prog_1_method_9_code, prog_5_method_7_code, prog_5_method_8_code, prog_5_method_5_code, prog_5_method_11_code, prog_5_method_12_code, prog_5_method_13_code, prog_3_method_12_code, prog_5_method_6_code, prog_5_method_9_code, prog_3_method_13_code, prog_5_method_10_code, prog_1_method_10_code, prog_5_method_4_code, prog_1_method_11_code, prog_1_method_12_code, prog_1_method_13_code, prog_4_method_5_code, prog_7_method_1_code, prog_7_method_6_code, prog_7_method_2_code, prog_7_method_3_code, prog_7_method_4_code, prog_7_method_5_code, prog_7_method_7_code, prog_7_method_10_code, prog_7_method_8_code, prog_7_method_9_code, prog_7_method_11_code, prog_7_method_12_code, prog_7_method_13_code, prog_7_method_21_code, prog_7_method_17_code, prog_7_method_18_code, prog_7_method_16_code, prog_7_method_15_code, prog_7_method_14_code, prog_7_method_19_code, prog_7_method_20_code, prog_7_method_27_code, prog_7_method_26_code, prog_7_method_25_code, prog_7_method_22_code, prog_7_method_24_code, prog_7_method_23_code, prog_7_method_29_code, prog_7_method_28_code, prog_7_method_30_code, prog_7_method_31_code, prog_7_method_32_code, code]
def cod (M : Nat) : ByteArray := codL.getD M code
def mxL : List Nat := [1, 2, 1, 2, 2, 2, 1, 1, 1, 1, 6, 4, 1, 4, 4, 6, 3, 1, 2, 3, 7, 4, 1, 2, 2, 2, 3, 3, 2, 2, 3, 3, 2, 2, 2, 2, 4, 2, 4, 5, 6, 2, 3, 3, 4, 1, 3, 3, 2, 3, 2, 3, 4, 6, 4, 2, 3, 2, 3, 2, 2, 2, 4, 2, 3, 2, 3, 1, 1, 1, 1, 6, 6, 7, 8, 2, 3, 3, 4, 4, 4, 11, 4, 6, 4, 5, 3, 5, 3, 2, 3, 7, 2, 2, 2, 4, 4, 4]
def mx (M : Nat) : Nat := mxL.getD M 10
def rtL : List (Option FieldType) := [none, none, none, none, none, (some .int), (some .boolean), (some .boolean), (some .boolean), (some .boolean), (some .int), (some .int), (some .boolean), (some .boolean), none, (some .int), (some .boolean), (some .int), (some .int), (some .int), (some .int), (some (.object "FlowEquations$Equation")), none, none, (some .int), (some .boolean), (some .int), (some .int), (some .int), (some .int), (some .int), (some .int), (some .int), (some .boolean), (some .int), (some .int), (some .boolean), (some .int), (some .boolean), (some .boolean), none, (some .int), none, (some .int), none, (some .int), (some .int), (some .int), none, none, (some .boolean), none, (some .int), (some .int), (some .int), (some .boolean), none, (some .boolean), (some .int), (some .long), (some .boolean), (some .int), (some .long), (some .int), (some .int), none, (some .int), (some .boolean), (some .boolean), (some .boolean), (some .boolean), (some .int), (some .int), (some .boolean), none, (some .int), (some .int), (some .int), (some .int), (some .boolean), (some .boolean), (some .boolean), (some .int), (some .int), none, (some .boolean), (some .int), none, (some .boolean), (some .boolean), none, (some .int), (some .long), (some .boolean), (some .int), (some .long), (some .int), (some .boolean)]
def rtM (M : Nat) : Option FieldType := rtL.getD M none
def hostM (_ : Nat) : String := "FlowEquations"
-- 0: FlowEquations.<init>()V
def ins_0 : List (Nat × Instr) := [(0, .aload_n 0), (1, .invokespecial 1), (4, .aload_n 0), (5, .bipush 24), (7, .newarray .int), (9, .putfield 9), (12, .aload_n 0), (13, .iconst 0), (14, .putfield 13), (17, .aload_n 0), (18, .iconst (-1)), (19, .putfield 17), (22, .aload_n 0), (23, .new 20), (26, .dup), (27, .invokespecial 22), (30, .putfield 23), (33, .aload_n 0), (34, .new 27), (37, .dup), (38, .aload_n 0), (39, .getfield 23), (42, .invokespecial 29), (45, .putfield 32), (48, .aload_n 0), (49, .new 36), (52, .dup), (53, .aload_n 0), (54, .getfield 23), (57, .invokespecial 38), (60, .putfield 39), (63, .aload_n 0), (64, .new 43), (67, .dup), (68, .invokespecial 45), (71, .putfield 46), (74, .aload_n 0), (75, .iconst 0), (76, .putfield 50), (79, .return_)]
def rv_0 : List (Nat × List Nat) := [(1, [6, 900, 1, 0, 72, 0, 0]), (7, [107]), (9, [0, 0, 2, 148]), (14, [0, 1, 0, 149]), (19, [0, 2, 0, 150]), (23, [3, 75, 76, 54]), (27, [5, 1, 1, 0, 0, 77, 54]), (30, [0, 3, 2, 151]), (34, [1, 113, 114, 56]), (39, [0, 3, 0, 151]), (42, [5, 3, 2, 0, 19, 115, 56]), (45, [0, 4, 2, 152]), (49, [4, 122, 123, 57]), (54, [0, 3, 0, 151]), (57, [5, 4, 2, 0, 21, 124, 57]), (60, [0, 5, 2, 153]), (64, [2, 147, 81, 55]), (68, [5, 2, 1, 0, 27, 82, 55]), (71, [0, 6, 0, 154]), (76, [0, 7, 0, 155])]
-- 1: FlowEquations$Program.<init>()V
def ins_1 : List (Nat × Instr) := [(0, .aload_n 0), (1, .invokespecial 3), (4, .aload_n 0), (5, .bipush 8), (7, .anewarray 9), (10, .putfield 11), (13, .aload_n 0), (14, .bipush 8), (16, .newarray .int), (18, .putfield 17), (21, .iconst 0), (22, .istore_n 1), (23, .iload_n 1), (24, .bipush 8), (26, .if_icmp .ge 29), (29, .aload_n 0), (30, .getfield 11), (33, .iload_n 1), (34, .new 9), (37, .dup), (38, .invokespecial 21), (41, .aastore), (42, .aload_n 0), (43, .getfield 17), (46, .iload_n 1), (47, .iconst (-1)), (48, .iastore), (49, .iinc 1 1), (52, .goto (-29)), (55, .return_)]
def rv_1 : List (Nat × List Nat) := [(1, [6, 900, 1, 0, 79, 0, 0]), (7, [2, 80]), (10, [3, 0, 2, 109]), (16, [107]), (18, [3, 1, 2, 110]), (30, [3, 0, 0, 109]), (34, [2, 80, 81, 55]), (38, [5, 2, 1, 0, 1, 82, 55]), (43, [3, 1, 0, 110])]
-- 2: FlowEquations$Equation.<init>()V
def ins_2 : List (Nat × Instr) := [(0, .aload_n 0), (1, .invokespecial 3), (4, .aload_n 0), (5, .bipush 24), (7, .newarray .int), (9, .putfield 9), (12, .aload_n 0), (13, .iconst 0), (14, .putfield 15), (17, .aload_n 0), (18, .iconst 0), (19, .putfield 19), (22, .aload_n 0), (23, .iconst (-1)), (24, .putfield 22), (27, .aload_n 0), (28, .bipush 72), (30, .newarray .int), (32, .putfield 25), (35, .aload_n 0), (36, .bipush 24), (38, .newarray .int), (40, .putfield 28), (43, .aload_n 0), (44, .bipush 24), (46, .newarray .boolean), (48, .putfield 31), (51, .aload_n 0), (52, .bipush 24), (54, .newarray .boolean), (56, .putfield 35), (59, .aload_n 0), (60, .bipush 24), (62, .newarray .int), (64, .putfield 38), (67, .aload_n 0), (68, .bipush 24), (70, .newarray .int), (72, .putfield 41), (75, .aload_n 0), (76, .bipush 24), (78, .newarray .int), (80, .putfield 44), (83, .return_)]
def rv_2 : List (Nat × List Nat) := [(1, [6, 900, 1, 0, 84, 0, 0]), (7, [107]), (9, [2, 0, 2, 85]), (14, [2, 1, 0, 86]), (19, [2, 2, 0, 87]), (24, [2, 3, 0, 88]), (30, [107]), (32, [2, 4, 2, 89]), (38, [107]), (40, [2, 5, 2, 90]), (46, [108]), (48, [2, 6, 2, 91]), (54, [108]), (56, [2, 7, 2, 92]), (62, [107]), (64, [2, 8, 2, 93]), (70, [107]), (72, [2, 9, 2, 94]), (78, [107]), (80, [2, 10, 2, 95])]
-- 3: FlowEquations$Checker.<init>(LFlowEquations$Program;)V
def ins_3 : List (Nat × Instr) := [(0, .aload_n 0), (1, .invokespecial 3), (4, .aload_n 0), (5, .aload_n 1), (6, .putfield 9), (9, .aload_n 0), (10, .bipush 8), (12, .newarray .int), (14, .putfield 15), (17, .return_)]
def rv_3 : List (Nat × List Nat) := [(1, [6, 900, 1, 0, 117, 0, 0]), (6, [1, 0, 2, 118]), (12, [107]), (14, [1, 1, 2, 119])]
-- 4: FlowEquations$Run.<init>(LFlowEquations$Program;)V
def ins_4 : List (Nat × Instr) := [(0, .aload_n 0), (1, .invokespecial 3), (4, .aload_n 0), (5, .aload_n 1), (6, .putfield 9), (9, .aload_n 0), (10, .iconst 4), (11, .newarray .int), (13, .putfield 15), (16, .aload_n 0), (17, .bipush 8), (19, .newarray .int), (21, .putfield 19), (24, .aload_n 0), (25, .bipush 8), (27, .newarray .int), (29, .putfield 22), (32, .aload_n 0), (33, .bipush 8), (35, .newarray .int), (37, .putfield 25), (40, .aload_n 0), (41, .iconst 0), (42, .putfield 28), (45, .aload_n 0), (46, .iconst 0), (47, .putfield 32), (50, .aload_n 0), (51, .iconst 0), (52, .putfield 35), (55, .aload_n 0), (56, .iconst 0), (57, .putfield 38), (60, .aload_n 0), (61, .iconst 0), (62, .putfield 41), (65, .return_)]
def rv_4 : List (Nat × List Nat) := [(1, [6, 900, 1, 0, 126, 0, 0]), (6, [4, 0, 2, 127]), (11, [107]), (13, [4, 1, 2, 128]), (19, [107]), (21, [4, 2, 2, 129]), (27, [107]), (29, [4, 3, 2, 130]), (35, [107]), (37, [4, 4, 2, 131]), (42, [4, 5, 0, 132]), (47, [4, 6, 0, 133]), (52, [4, 7, 0, 134]), (57, [4, 8, 0, 135]), (62, [4, 9, 0, 136])]
-- 5: FlowEquations.type(I)I
def ins_5 : List (Nat × Instr) := [(0, .iload_n 1), (1, .invokestatic 54), (4, .ifCond .ne 5), (7, .iconst (-1)), (8, .ireturn), (9, .aload_n 0), (10, .getfield 13), (13, .bipush 24), (15, .if_icmp .lt 6), (18, .bipush (-2)), (20, .ireturn), (21, .aload_n 0), (22, .getfield 9), (25, .aload_n 0), (26, .getfield 13), (29, .iload_n 1), (30, .iastore), (31, .aload_n 0), (32, .dup), (33, .getfield 13), (36, .iconst 1), (37, .iadd), (38, .putfield 13), (41, .aload_n 0), (42, .getfield 13), (45, .ireturn)]
def rv_5 : List (Nat × List Nat) := [(1, [0, 6, 1, 0, 168, 169, 53]), (10, [0, 1, 0, 149]), (22, [0, 0, 0, 148]), (26, [0, 1, 0, 149]), (33, [0, 1, 0, 149]), (38, [0, 1, 0, 149]), (42, [0, 1, 0, 149])]
-- 6: FlowEquations.isOfLine(I)Z
def ins_6 : List (Nat × Instr) := [(0, .iload_n 0), (1, .invokestatic 149), (4, .ifCond .ne 24), (7, .iload_n 0), (8, .invokestatic 152), (11, .ifCond .ne 17), (14, .iload_n 0), (15, .invokestatic 155), (18, .ifCond .ne 10), (21, .iload_n 0), (22, .invokestatic 158), (25, .ifCond .eq 7), (28, .iconst 1), (29, .goto 4), (32, .iconst 0), (33, .ireturn)]
def rv_6 : List (Nat × List Nat) := [(1, [0, 7, 1, 0, 171, 172, 53]), (8, [0, 8, 1, 0, 174, 175, 53]), (15, [0, 9, 1, 0, 177, 178, 53]), (22, [6, 902, 1, 0, 180, 0, 0])]
-- 7: FlowEquations.isDigit(I)Z
def ins_7 : List (Nat × Instr) := [(0, .iload_n 0), (1, .bipush 48), (3, .if_icmp .lt 13), (6, .iload_n 0), (7, .bipush 57), (9, .if_icmp .gt 7), (12, .iconst 1), (13, .goto 4), (16, .iconst 0), (17, .ireturn)]
def rv_7 : List (Nat × List Nat) := []
-- 8: FlowEquations.isVariableName(I)Z
def ins_8 : List (Nat × Instr) := [(0, .iload_n 0), (1, .bipush 97), (3, .if_icmp .lt 13), (6, .iload_n 0), (7, .bipush 105), (9, .if_icmp .ge 7), (12, .iconst 1), (13, .goto 4), (16, .iconst 0), (17, .ireturn)]
def rv_8 : List (Nat × List Nat) := []
-- 9: FlowEquations.isInputName(I)Z
def ins_9 : List (Nat × Instr) := [(0, .iload_n 0), (1, .bipush 112), (3, .if_icmp .lt 13), (6, .iload_n 0), (7, .bipush 116), (9, .if_icmp .ge 7), (12, .iconst 1), (13, .goto 4), (16, .iconst 0), (17, .ireturn)]
def rv_9 : List (Nat × List Nat) := []
-- 10: FlowEquations.types(J)I
def ins_10 : List (Nat × Instr) := [(0, .bipush 56), (2, .istore_n 3), (3, .iload_n 3), (4, .ifCond .lt 47), (7, .lload_n 1), (8, .iload_n 3), (9, .lushr), (10, .l2i), (11, .sipush 255), (14, .iand), (15, .istore 4), (17, .iload 4), (19, .ifCond .ne 10), (22, .aload_n 0), (23, .getfield 13), (26, .goto 9), (29, .aload_n 0), (30, .iload 4), (32, .invokevirtual 58), (35, .istore 5), (37, .iload 5), (39, .ifCond .ge 6), (42, .iload 5), (44, .ireturn), (45, .iinc 3 (-8)), (48, .goto (-45)), (51, .aload_n 0), (52, .getfield 13), (55, .ireturn)]
def rv_10 : List (Nat × List Nat) := [(23, [0, 1, 0, 149]), (32, [2, 5, 2, 0, 231, 165, 166, 53]), (52, [0, 1, 0, 149])]
-- 11: FlowEquations.define(I)I
def ins_11 : List (Nat × Instr) := [(0, .iload_n 1), (1, .invokestatic 62), (4, .ifCond .ne 5), (7, .iconst (-1)), (8, .ireturn), (9, .aload_n 0), (10, .getfield 46), (13, .aload_n 0), (14, .getfield 9), (17, .aload_n 0), (18, .getfield 13), (21, .invokevirtual 65), (24, .istore_n 2), (25, .aload_n 0), (26, .iconst 0), (27, .putfield 13), (30, .iload_n 2), (31, .ifCond .ne 17), (34, .aload_n 0), (35, .aload_n 0), (36, .getfield 46), (39, .getfield 69), (42, .putfield 17), (45, .bipush (-3)), (47, .ireturn), (48, .aload_n 0), (49, .getfield 46), (52, .getfield 72), (55, .istore_n 3), (56, .aload_n 0), (57, .aload_n 0), (58, .getfield 23), (61, .iload_n 1), (62, .aload_n 0), (63, .getfield 46), (66, .invokevirtual 75), (69, .putfield 46), (72, .aload_n 0), (73, .invokevirtual 79), (76, .iload_n 3), (77, .ireturn)]
def rv_11 : List (Nat × List Nat) := [(1, [0, 12, 1, 0, 236, 237, 53]), (10, [0, 6, 0, 154]), (14, [0, 0, 0, 148]), (18, [0, 1, 0, 149]), (21, [3, 13, 3, 2, 28, 239, 0, 55]), (27, [0, 1, 0, 149]), (36, [0, 6, 0, 154]), (39, [2, 3, 1, 7]), (42, [0, 2, 0, 150]), (49, [0, 6, 0, 154]), (52, [2, 2, 1, 6]), (58, [0, 3, 0, 151]), (63, [0, 6, 0, 154]), (66, [3, 21, 3, 3, 31, 264, 5, 54]), (69, [0, 6, 0, 154]), (73, [2, 22, 1, 0, 266, 267, 6, 53])]
-- 12: FlowEquations.isVariable(I)Z
def ins_12 : List (Nat × Instr) := [(0, .iload_n 0), (1, .ifCond .lt 13), (4, .iload_n 0), (5, .bipush 8), (7, .if_icmp .ge 7), (10, .iconst 1), (11, .goto 4), (14, .iconst 0), (15, .ireturn)]
def rv_12 : List (Nat × List Nat) := []
-- 13: FlowEquations$Equation.readLine([II)Z
def ins_13 : List (Nat × Instr) := [(0, .aload_n 1), (1, .iconst 0), (2, .aload_n 0), (3, .getfield 9), (6, .iconst 0), (7, .iload_n 2), (8, .invokestatic 47), (11, .aload_n 0), (12, .getfield 25), (15, .iconst (-1)), (16, .invokestatic 53), (19, .aload_n 0), (20, .iload_n 2), (21, .putfield 15), (24, .aload_n 0), (25, .iconst 0), (26, .putfield 19), (29, .aload_n 0), (30, .iconst (-1)), (31, .putfield 22), (34, .aload_n 0), (35, .iconst 0), (36, .iconst 1), (37, .iconst 0), (38, .invokevirtual 59), (41, .istore_n 3), (42, .iload_n 3), (43, .iconst (-1)), (44, .if_icmp .eq 16), (47, .iload_n 3), (48, .aload_n 0), (49, .getfield 15), (52, .if_icmp .ge 8), (55, .aload_n 0), (56, .iload_n 3), (57, .putfield 22), (60, .aload_n 0), (61, .getfield 22), (64, .iconst (-1)), (65, .if_icmp .ne 7), (68, .iconst 1), (69, .goto 4), (72, .iconst 0), (73, .ireturn)]
def rv_13 : List (Nat × List Nat) := [(3, [2, 0, 0, 85]), (8, [6, 901, 5, 0, 241, 0, 0]), (12, [2, 4, 0, 89]), (16, [0, 14, 2, 0, 244, 245, 64]), (21, [2, 1, 0, 86]), (26, [2, 2, 0, 87]), (31, [2, 3, 0, 88]), (38, [2, 15, 4, 2, 247, 248, 1, 55]), (49, [2, 1, 0, 86]), (57, [2, 3, 0, 88]), (61, [2, 3, 0, 88])]
-- 14: java/util/Arrays.fill([II)V
def ins_14 : List (Nat × Instr) := [(0, .iconst 0), (1, .istore_n 2), (2, .aload_n 0), (3, .arraylength), (4, .istore_n 3), (5, .iload_n 2), (6, .iload_n 3), (7, .if_icmp .ge 13), (10, .aload_n 0), (11, .iload_n 2), (12, .iload_n 1), (13, .iastore), (14, .iinc 2 1), (17, .goto (-12)), (20, .return_)]
def rv_14 : List (Nat × List Nat) := []
-- 15: FlowEquations$Equation.readTerm(IIZ)I
def ins_15 : List (Nat × Instr) := [(0, .aload_n 0), (1, .iload_n 1), (2, .iload_n 2), (3, .invokevirtual 63), (6, .ifCond .ne 10), (9, .aload_n 0), (10, .iload_n 1), (11, .putfield 22), (14, .iconst (-1)), (15, .ireturn), (16, .aload_n 0), (17, .getfield 9), (20, .iload_n 1), (21, .iaload), (22, .istore 4), (24, .aload_n 0), (25, .aload_n 0), (26, .getfield 19), (29, .iload_n 2), (30, .invokestatic 67), (33, .putfield 19), (36, .aload_n 0), (37, .getfield 28), (40, .iload_n 1), (41, .iload 4), (43, .invokestatic 73), (46, .ifCond .eq 11), (49, .iload 4), (51, .bipush 97), (53, .isub), (54, .goto 4), (57, .iconst (-1)), (58, .iastore), (59, .aload_n 0), (60, .getfield 31), (63, .iload_n 1), (64, .iconst 1), (65, .bastore), (66, .aload_n 0), (67, .getfield 35), (70, .iload_n 1), (71, .iload_n 3), (72, .bastore), (73, .iload_n 1), (74, .iconst 1), (75, .iadd), (76, .istore 5), (78, .iload 4), (80, .bipush 67), (82, .if_icmp .ne 12), (85, .aload_n 0), (86, .iload 5), (88, .iload_n 1), (89, .invokevirtual 77), (92, .istore 5), (94, .aload_n 0), (95, .iload 5), (97, .iload_n 1), (98, .iload_n 2), (99, .invokevirtual 80), (102, .istore 5), (104, .iload 4), (106, .bipush 87), (108, .if_icmp .ne 12), (111, .aload_n 0), (112, .iload 5), (114, .iload_n 1), (115, .invokevirtual 77), (118, .istore 5), (120, .iload 5), (122, .ireturn)]
def rv_15 : List (Nat × List Nat) := [(3, [2, 16, 3, 2, 250, 251, 2, 55]), (11, [2, 3, 0, 88]), (17, [2, 0, 0, 85]), (26, [2, 2, 0, 87]), (30, [0, 18, 2, 0, 255, 256, 65]), (33, [2, 2, 0, 87]), (37, [2, 5, 0, 90]), (43, [1, 8, 1, 0, 30, 175, 53]), (60, [2, 6, 0, 91]), (67, [2, 7, 0, 92]), (89, [2, 19, 3, 2, 258, 259, 3, 55]), (99, [2, 20, 4, 2, 261, 262, 4, 55]), (115, [2, 19, 3, 2, 258, 259, 3, 55])]
-- 16: FlowEquations$Equation.mayBeginTerm(II)Z
def ins_16 : List (Nat × Instr) := [(0, .iload_n 1), (1, .aload_n 0), (2, .getfield 15), (5, .if_icmp .ge 31), (8, .iload_n 2), (9, .bipush 6), (11, .if_icmp .lt 21), (14, .iload_n 2), (15, .bipush 6), (17, .if_icmp .ne 19), (20, .aload_n 0), (21, .getfield 9), (24, .iload_n 1), (25, .iaload), (26, .invokestatic 84), (29, .ifCond .ne 7), (32, .iconst 1), (33, .goto 4), (36, .iconst 0), (37, .ireturn)]
def rv_16 : List (Nat × List Nat) := [(2, [2, 1, 0, 86]), (21, [2, 0, 0, 85]), (26, [1, 17, 1, 0, 29, 253, 53])]
-- 17: FlowEquations.partCount(I)I
def ins_17 : List (Nat × Instr) := [(0, .iload_n 0), (1, .lookupswitch 113 #[(33, 111), (38, 109), (42, 109), (43, 109), (45, 109), (60, 109), (61, 109), (63, 107), (67, 111), (70, 109), (80, 111), (87, 111)]), (108, .iconst 3), (109, .ireturn), (110, .iconst 2), (111, .ireturn), (112, .iconst 1), (113, .ireturn), (114, .iconst 0), (115, .ireturn)]
def rv_17 : List (Nat × List Nat) := []
-- 18: java/lang/Math.max(II)I
def ins_18 : List (Nat × Instr) := [(0, .iload_n 0), (1, .iload_n 1), (2, .if_icmp .lt 7), (5, .iload_n 0), (6, .goto 4), (9, .iload_n 1), (10, .ireturn)]
def rv_18 : List (Nat × List Nat) := []
-- 19: FlowEquations$Equation.readName(II)I
def ins_19 : List (Nat × Instr) := [(0, .iload_n 1), (1, .iconst (-1)), (2, .if_icmp .ne 5), (5, .iconst (-1)), (6, .ireturn), (7, .iload_n 1), (8, .aload_n 0), (9, .getfield 15), (12, .if_icmp .ge 15), (15, .aload_n 0), (16, .getfield 9), (19, .iload_n 1), (20, .iaload), (21, .invokestatic 73), (24, .ifCond .ne 10), (27, .aload_n 0), (28, .iload_n 1), (29, .putfield 22), (32, .iconst (-1)), (33, .ireturn), (34, .aload_n 0), (35, .getfield 28), (38, .iload_n 2), (39, .aload_n 0), (40, .getfield 9), (43, .iload_n 1), (44, .iaload), (45, .bipush 97), (47, .isub), (48, .iastore), (49, .aload_n 0), (50, .getfield 28), (53, .iload_n 1), (54, .iconst (-1)), (55, .iastore), (56, .aload_n 0), (57, .getfield 31), (60, .iload_n 1), (61, .iconst 0), (62, .bastore), (63, .iload_n 1), (64, .iconst 1), (65, .iadd), (66, .ireturn)]
def rv_19 : List (Nat × List Nat) := [(9, [2, 1, 0, 86]), (16, [2, 0, 0, 85]), (21, [1, 8, 1, 0, 30, 175, 53]), (29, [2, 3, 0, 88]), (35, [2, 5, 0, 90]), (40, [2, 0, 0, 85]), (50, [2, 5, 0, 90]), (57, [2, 6, 0, 91])]
-- 20: FlowEquations$Equation.readParts(III)I
def ins_20 : List (Nat × Instr) := [(0, .aload_n 0), (1, .getfield 9), (4, .iload_n 2), (5, .iaload), (6, .istore 4), (8, .iload_n 1), (9, .istore 5), (11, .iconst 0), (12, .istore 6), (14, .iload 6), (16, .iload 4), (18, .invokestatic 84), (21, .if_icmp .ge 60), (24, .iload 5), (26, .iconst (-1)), (27, .if_icmp .eq 54), (30, .aload_n 0), (31, .getfield 25), (34, .iload_n 2), (35, .iconst 3), (36, .imul), (37, .iload 6), (39, .iadd), (40, .iload 5), (42, .iastore), (43, .aload_n 0), (44, .iload 5), (46, .iload_n 3), (47, .iconst 1), (48, .iadd), (49, .aload_n 0), (50, .getfield 35), (53, .iload_n 2), (54, .baload), (55, .ifCond .ne 10), (58, .iload 4), (60, .bipush 80), (62, .if_icmp .ne 7), (65, .iconst 1), (66, .goto 4), (69, .iconst 0), (70, .invokevirtual 59), (73, .istore 5), (75, .iinc 6 1), (78, .goto (-64)), (81, .iload 5), (83, .ireturn)]
def rv_20 : List (Nat × List Nat) := [(1, [2, 0, 0, 85]), (18, [1, 17, 1, 0, 29, 253, 53]), (31, [2, 4, 0, 89]), (50, [2, 7, 0, 92]), (70, [2, 15, 4, 2, 247, 248, 1, 55])]
-- 21: FlowEquations$Program.exchange(ILFlowEquations$Equation;)LFlowEquations$Equation;
def ins_21 : List (Nat × Instr) := [(0, .aload_n 0), (1, .getfield 11), (4, .iload_n 1), (5, .aaload), (6, .astore_n 3), (7, .aload_n 0), (8, .getfield 11), (11, .iload_n 1), (12, .aload_n 2), (13, .aastore), (14, .aload_n 3), (15, .areturn)]
def rv_21 : List (Nat × List Nat) := [(1, [3, 0, 0, 109]), (8, [3, 0, 0, 109])]
-- 22: FlowEquations.becomeUnready()V
def ins_22 : List (Nat × Instr) := [(0, .aload_n 0), (1, .iconst 0), (2, .putfield 50), (5, .aload_n 0), (6, .getfield 39), (9, .invokevirtual 98), (12, .return_)]
def rv_22 : List (Nat × List Nat) := [(2, [0, 7, 0, 155]), (6, [0, 5, 0, 153]), (9, [3, 23, 1, 4, 32, 269, 7, 57])]
-- 23: FlowEquations$Run.restart()V
def ins_23 : List (Nat × Instr) := [(0, .aload_n 0), (1, .getfield 19), (4, .iconst 0), (5, .invokestatic 44), (8, .aload_n 0), (9, .getfield 22), (12, .iconst 0), (13, .invokestatic 44), (16, .iconst 0), (17, .istore_n 1), (18, .iload_n 1), (19, .bipush 8), (21, .if_icmp .ge 25), (24, .aload_n 0), (25, .getfield 9), (28, .getfield 50), (31, .iload_n 1), (32, .aaload), (33, .getfield 56), (36, .iconst 0), (37, .invokestatic 44), (40, .iinc 1 1), (43, .goto (-25)), (46, .aload_n 0), (47, .iconst 0), (48, .putfield 32), (51, .aload_n 0), (52, .iconst 0), (53, .putfield 35), (56, .aload_n 0), (57, .iconst 0), (58, .putfield 38), (61, .aload_n 0), (62, .iconst 0), (63, .putfield 41), (66, .return_)]
def rv_23 : List (Nat × List Nat) := [(1, [4, 2, 0, 129]), (5, [0, 14, 2, 0, 271, 245, 64]), (9, [4, 3, 0, 130]), (13, [0, 14, 2, 0, 271, 245, 64]), (25, [4, 0, 0, 127]), (28, [3, 0, 1, 13]), (33, [2, 10, 1, 11]), (37, [0, 14, 2, 0, 271, 245, 64]), (48, [4, 6, 0, 133]), (53, [4, 7, 0, 134]), (58, [4, 8, 0, 135]), (63, [4, 9, 0, 136])]
-- 24: FlowEquations.drop(I)I
def ins_24 : List (Nat × Instr) := [(0, .aload_n 0), (1, .getfield 23), (4, .iload_n 1), (5, .invokevirtual 82), (8, .ifCond .ne 5), (11, .iconst (-1)), (12, .ireturn), (13, .aload_n 0), (14, .getfield 23), (17, .getfield 85), (20, .iload_n 1), (21, .aaload), (22, .iconst 0), (23, .putfield 89), (26, .aload_n 0), (27, .invokevirtual 79), (30, .iconst 0), (31, .ireturn)]
def rv_24 : List (Nat × List Nat) := [(1, [0, 3, 0, 151]), (5, [3, 25, 2, 3, 33, 276, 8, 54]), (14, [0, 3, 0, 151]), (17, [3, 0, 1, 15]), (23, [2, 1, 1, 4]), (27, [2, 22, 1, 0, 266, 267, 6, 53])]
-- 25: FlowEquations$Program.defines(I)Z
def ins_25 : List (Nat × Instr) := [(0, .iload_n 1), (1, .invokestatic 22), (4, .ifCond .eq 19), (7, .aload_n 0), (8, .getfield 11), (11, .iload_n 1), (12, .aaload), (13, .getfield 26), (16, .ifCond .le 7), (19, .iconst 1), (20, .goto 4), (23, .iconst 0), (24, .ireturn)]
def rv_25 : List (Nat × List Nat) := [(1, [1, 12, 1, 0, 34, 237, 53]), (8, [3, 0, 0, 109]), (13, [2, 1, 1, 3])]
-- 26: FlowEquations.clock(II)I
def ins_26 : List (Nat × Instr) := [(0, .iload_n 1), (1, .invokestatic 62), (4, .ifCond .eq 15), (7, .iload_n 2), (8, .iconst (-1)), (9, .if_icmp .eq 12), (12, .iload_n 2), (13, .invokestatic 62), (16, .ifCond .ne 5), (19, .iconst (-1)), (20, .ireturn), (21, .aload_n 0), (22, .getfield 23), (25, .getfield 92), (28, .iload_n 1), (29, .iload_n 2), (30, .iastore), (31, .aload_n 0), (32, .invokevirtual 79), (35, .iconst 0), (36, .ireturn)]
def rv_26 : List (Nat × List Nat) := [(1, [0, 12, 1, 0, 236, 237, 53]), (13, [0, 12, 1, 0, 236, 237, 53]), (22, [0, 3, 0, 151]), (25, [3, 1, 1, 17]), (32, [2, 22, 1, 0, 266, 267, 6, 53])]
-- 27: FlowEquations.input(II)I
def ins_27 : List (Nat × Instr) := [(0, .iload_n 1), (1, .ifCond .lt 8), (4, .iload_n 1), (5, .iconst 4), (6, .if_icmp .lt 5), (9, .iconst (-1)), (10, .ireturn), (11, .aload_n 0), (12, .getfield 39), (15, .getfield 95), (18, .iload_n 1), (19, .iload_n 2), (20, .iastore), (21, .iconst 0), (22, .ireturn)]
def rv_27 : List (Nat × List Nat) := [(12, [0, 5, 0, 153]), (15, [4, 1, 1, 22])]
-- 28: FlowEquations.check()I
def ins_28 : List (Nat × Instr) := [(0, .aload_n 0), (1, .getfield 39), (4, .invokevirtual 98), (7, .aload_n 0), (8, .getfield 32), (11, .invokevirtual 101), (14, .istore_n 1), (15, .aload_n 0), (16, .iload_n 1), (17, .ifCond .ne 7), (20, .iconst 1), (21, .goto 4), (24, .iconst 0), (25, .putfield 50), (28, .aload_n 0), (29, .getfield 50), (32, .ifCond .ne 5), (35, .iload_n 1), (36, .ireturn), (37, .aload_n 0), (38, .getfield 39), (41, .aload_n 0), (42, .getfield 32), (45, .getfield 105), (48, .invokevirtual 108), (51, .aload_n 0), (52, .getfield 23), (55, .invokevirtual 112), (58, .ireturn)]
def rv_28 : List (Nat × List Nat) := [(1, [0, 5, 0, 153]), (4, [3, 23, 1, 4, 32, 269, 7, 57]), (8, [0, 4, 0, 152]), (11, [3, 29, 1, 1, 35, 290, 9, 56]), (25, [0, 7, 0, 155]), (29, [0, 7, 0, 155]), (38, [0, 5, 0, 153]), (42, [0, 4, 0, 152]), (45, [1, 1, 1, 20]), (48, [3, 44, 2, 4, 43, 329, 22, 57]), (52, [0, 3, 0, 151]), (55, [3, 46, 1, 3, 45, 337, 23, 54])]
-- 29: FlowEquations$Checker.firstFault()I
def ins_29 : List (Nat × Instr) := [(0, .aload_n 0), (1, .invokevirtual 19), (4, .istore_n 1), (5, .iload_n 1), (6, .iconst (-1)), (7, .if_icmp .eq 9), (10, .iconst 1), (11, .iload_n 1), (12, .invokestatic 23), (15, .ireturn), (16, .aload_n 0), (17, .invokevirtual 27), (20, .istore_n 1), (21, .iload_n 1), (22, .iconst (-1)), (23, .if_icmp .eq 9), (26, .iconst 2), (27, .iload_n 1), (28, .invokestatic 23), (31, .ireturn), (32, .aload_n 0), (33, .invokevirtual 30), (36, .istore_n 1), (37, .iload_n 1), (38, .iconst (-1)), (39, .if_icmp .eq 9), (42, .iconst 3), (43, .iload_n 1), (44, .invokestatic 23), (47, .ireturn), (48, .aload_n 0), (49, .invokevirtual 33), (52, .istore_n 1), (53, .iload_n 1), (54, .iconst (-1)), (55, .if_icmp .ne 7), (58, .iconst 0), (59, .goto 8), (62, .iconst 4), (63, .iload_n 1), (64, .invokestatic 23), (67, .ireturn)]
def rv_29 : List (Nat × List Nat) := [(1, [2, 30, 1, 1, 292, 293, 10, 56]), (12, [0, 34, 2, 0, 301, 302, 56]), (17, [2, 35, 1, 1, 304, 305, 13, 56]), (28, [0, 34, 2, 0, 301, 302, 56]), (33, [2, 37, 1, 1, 310, 311, 15, 56]), (44, [0, 34, 2, 0, 301, 302, 56]), (49, [2, 41, 1, 1, 321, 322, 19, 56]), (64, [0, 34, 2, 0, 301, 302, 56])]
-- 30: FlowEquations$Checker.leastMissing()I
def ins_30 : List (Nat × Instr) := [(0, .iconst 0), (1, .istore_n 1), (2, .iconst 0), (3, .istore_n 2), (4, .iload_n 2), (5, .bipush 8), (7, .if_icmp .ge 44), (10, .aload_n 0), (11, .getfield 9), (14, .iload_n 2), (15, .invokevirtual 36), (18, .ifCond .eq 27), (21, .iload_n 1), (22, .aload_n 0), (23, .getfield 9), (26, .getfield 42), (29, .iload_n 2), (30, .aaload), (31, .invokevirtual 46), (34, .aload_n 0), (35, .getfield 9), (38, .iload_n 2), (39, .invokevirtual 51), (42, .ior), (43, .ior), (44, .istore_n 1), (45, .iinc 2 1), (48, .goto (-44)), (51, .iconst 0), (52, .istore_n 2), (53, .iload_n 2), (54, .bipush 8), (56, .if_icmp .ge 30), (59, .iload_n 1), (60, .iload_n 2), (61, .invokestatic 55), (64, .ifCond .eq 16), (67, .aload_n 0), (68, .getfield 9), (71, .iload_n 2), (72, .invokevirtual 36), (75, .ifCond .ne 5), (78, .iload_n 2), (79, .ireturn), (80, .iinc 2 1), (83, .goto (-30)), (86, .iconst (-1)), (87, .ireturn)]
def rv_30 : List (Nat × List Nat) := [(11, [1, 0, 0, 118]), (15, [3, 25, 2, 3, 36, 276, 8, 54]), (23, [1, 0, 0, 118]), (26, [3, 0, 1, 14]), (31, [3, 31, 1, 2, 37, 295, 11, 55]), (35, [1, 0, 0, 118]), (39, [3, 32, 2, 3, 38, 297, 12, 54]), (61, [1, 33, 2, 0, 39, 299, 53]), (68, [1, 0, 0, 118]), (72, [3, 25, 2, 3, 36, 276, 8, 54])]
-- 31: FlowEquations$Equation.allNames()I
def ins_31 : List (Nat × Instr) := [(0, .iconst 0), (1, .istore_n 1), (2, .iconst 0), (3, .istore_n 2), (4, .iload_n 2), (5, .aload_n 0), (6, .getfield 15), (9, .if_icmp .ge 30), (12, .aload_n 0), (13, .getfield 28), (16, .iload_n 2), (17, .iaload), (18, .iconst (-1)), (19, .if_icmp .eq 14), (22, .iload_n 1), (23, .iconst 1), (24, .aload_n 0), (25, .getfield 28), (28, .iload_n 2), (29, .iaload), (30, .ishl), (31, .ior), (32, .istore_n 1), (33, .iinc 2 1), (36, .goto (-32)), (39, .iload_n 1), (40, .ireturn)]
def rv_31 : List (Nat × List Nat) := [(6, [2, 1, 0, 86]), (13, [2, 5, 0, 90]), (25, [2, 5, 0, 90])]
-- 32: FlowEquations$Program.clockSet(I)I
def ins_32 : List (Nat × Instr) := [(0, .aload_n 0), (1, .getfield 17), (4, .iload_n 1), (5, .iaload), (6, .iconst (-1)), (7, .if_icmp .ne 7), (10, .iconst 0), (11, .goto 11), (14, .iconst 1), (15, .aload_n 0), (16, .getfield 17), (19, .iload_n 1), (20, .iaload), (21, .ishl), (22, .ireturn)]
def rv_32 : List (Nat × List Nat) := [(1, [3, 1, 0, 110]), (16, [3, 1, 0, 110])]
-- 33: FlowEquations.contains(II)Z
def ins_33 : List (Nat × Instr) := [(0, .iload_n 0), (1, .iload_n 1), (2, .ishr), (3, .iconst 1), (4, .iand), (5, .ifCond .eq 7), (8, .iconst 1), (9, .goto 4), (12, .iconst 0), (13, .ireturn)]
def rv_33 : List (Nat × List Nat) := []
-- 34: FlowEquations$Checker.faultAnswer(II)I
def ins_34 : List (Nat × Instr) := [(0, .bipush (-100)), (2, .iload_n 0), (3, .imul), (4, .iload_n 1), (5, .isub), (6, .ireturn)]
def rv_34 : List (Nat × List Nat) := []
-- 35: FlowEquations$Checker.leastOnClockRing()I
def ins_35 : List (Nat × Instr) := [(0, .iconst 0), (1, .istore_n 1), (2, .iload_n 1), (3, .bipush 8), (5, .if_icmp .ge 30), (8, .aload_n 0), (9, .getfield 9), (12, .iload_n 1), (13, .invokevirtual 36), (16, .ifCond .eq 13), (19, .aload_n 0), (20, .iload_n 1), (21, .invokevirtual 59), (24, .ifCond .eq 5), (27, .iload_n 1), (28, .ireturn), (29, .iinc 1 1), (32, .goto (-30)), (35, .iconst (-1)), (36, .ireturn)]
def rv_35 : List (Nat × List Nat) := [(9, [1, 0, 0, 118]), (13, [3, 25, 2, 3, 36, 276, 8, 54]), (21, [2, 36, 2, 1, 307, 308, 14, 56])]
-- 36: FlowEquations$Checker.clocksLeadBackTo(I)Z
def ins_36 : List (Nat × Instr) := [(0, .aload_n 0), (1, .getfield 9), (4, .getfield 62), (7, .iload_n 1), (8, .iaload), (9, .istore_n 2), (10, .iconst 1), (11, .istore_n 3), (12, .iload_n 3), (13, .bipush 8), (15, .if_icmp .ge 29), (18, .iload_n 2), (19, .iconst (-1)), (20, .if_icmp .eq 24), (23, .iload_n 2), (24, .iload_n 1), (25, .if_icmp .eq 19), (28, .aload_n 0), (29, .getfield 9), (32, .getfield 62), (35, .iload_n 2), (36, .iaload), (37, .istore_n 2), (38, .iinc 3 1), (41, .goto (-29)), (44, .iload_n 2), (45, .iload_n 1), (46, .if_icmp .ne 7), (49, .iconst 1), (50, .goto 4), (53, .iconst 0), (54, .ireturn)]
def rv_36 : List (Nat × List Nat) := [(1, [1, 0, 0, 118]), (4, [3, 1, 1, 16]), (29, [1, 0, 0, 118]), (32, [3, 1, 1, 16])]
-- 37: FlowEquations$Checker.leastUnfit()I
def ins_37 : List (Nat × Instr) := [(0, .iconst 0), (1, .istore_n 1), (2, .iload_n 1), (3, .bipush 8), (5, .if_icmp .ge 53), (8, .aload_n 0), (9, .getfield 9), (12, .iload_n 1), (13, .invokevirtual 36), (16, .ifCond .eq 36), (19, .aload_n 0), (20, .getfield 9), (23, .getfield 42), (26, .iload_n 1), (27, .aaload), (28, .aload_n 0), (29, .getfield 9), (32, .getfield 62), (35, .iload_n 1), (36, .iaload), (37, .aload_n 0), (38, .getfield 9), (41, .getfield 62), (44, .invokevirtual 65), (47, .ifCond .ne 5), (50, .iload_n 1), (51, .ireturn), (52, .iinc 1 1), (55, .goto (-53)), (58, .iconst (-1)), (59, .ireturn)]
def rv_37 : List (Nat × List Nat) := [(9, [1, 0, 0, 118]), (13, [3, 25, 2, 3, 36, 276, 8, 54]), (20, [1, 0, 0, 118]), (23, [3, 0, 1, 14]), (29, [1, 0, 0, 118]), (32, [3, 1, 1, 16]), (38, [1, 0, 0, 118]), (41, [3, 1, 1, 16]), (44, [3, 38, 3, 2, 40, 313, 16, 55])]
-- 38: FlowEquations$Equation.fits(I[I)Z
def ins_38 : List (Nat × Instr) := [(0, .aload_n 0), (1, .getfield 38), (4, .iconst 0), (5, .iload_n 1), (6, .iastore), (7, .iconst 0), (8, .istore_n 3), (9, .iload_n 3), (10, .aload_n 0), (11, .getfield 15), (14, .if_icmp .ge 35), (17, .aload_n 0), (18, .getfield 31), (21, .iload_n 3), (22, .baload), (23, .ifCond .eq 20), (26, .aload_n 0), (27, .iload_n 3), (28, .aload_n 2), (29, .invokevirtual 88), (32, .ifCond .ne 5), (35, .iconst 0), (36, .ireturn), (37, .aload_n 0), (38, .iload_n 3), (39, .aload_n 2), (40, .invokevirtual 92), (43, .iinc 3 1), (46, .goto (-37)), (49, .iconst 1), (50, .ireturn)]
def rv_38 : List (Nat × List Nat) := [(1, [2, 8, 0, 93]), (11, [2, 1, 0, 86]), (18, [2, 6, 0, 91]), (29, [2, 39, 3, 2, 315, 316, 17, 55]), (40, [2, 40, 3, 2, 318, 319, 18, 55])]
-- 39: FlowEquations$Equation.fitsAt(I[I)Z
def ins_39 : List (Nat × Instr) := [(0, .aload_n 0), (1, .getfield 9), (4, .iload_n 1), (5, .iaload), (6, .istore_n 3), (7, .aload_n 0), (8, .getfield 38), (11, .iload_n 1), (12, .iaload), (13, .istore 4), (15, .iload_n 3), (16, .invokestatic 73), (19, .ifCond .ne 9), (22, .iload_n 3), (23, .bipush 67), (25, .if_icmp .ne 22), (28, .iload 4), (30, .aload_n 2), (31, .aload_n 0), (32, .getfield 28), (35, .iload_n 1), (36, .iaload), (37, .iaload), (38, .if_icmp .ne 7), (41, .iconst 1), (42, .goto 4), (45, .iconst 0), (46, .ireturn), (47, .iload_n 3), (48, .invokestatic 96), (51, .ifCond .eq 15), (54, .iload 4), (56, .iconst (-1)), (57, .if_icmp .ne 7), (60, .iconst 1), (61, .goto 4), (64, .iconst 0), (65, .ireturn), (66, .iload_n 3), (67, .bipush 87), (69, .if_icmp .ne 14), (72, .iload 4), (74, .aload_n 0), (75, .getfield 28), (78, .iload_n 1), (79, .iaload), (80, .if_icmp .ne 7), (83, .iconst 1), (84, .goto 4), (87, .iconst 0), (88, .ireturn)]
def rv_39 : List (Nat × List Nat) := [(1, [2, 0, 0, 85]), (8, [2, 8, 0, 93]), (16, [1, 8, 1, 0, 30, 175, 53]), (32, [2, 5, 0, 90]), (48, [1, 9, 1, 0, 41, 178, 53]), (75, [2, 5, 0, 90])]
-- 40: FlowEquations$Equation.handClockDown(I[I)V
def ins_40 : List (Nat × Instr) := [(0, .aload_n 0), (1, .getfield 9), (4, .iload_n 1), (5, .iaload), (6, .istore_n 3), (7, .aload_n 0), (8, .getfield 38), (11, .iload_n 1), (12, .iaload), (13, .istore 4), (15, .iload_n 3), (16, .bipush 87), (18, .if_icmp .ne 16), (21, .aload_n 2), (22, .aload_n 0), (23, .getfield 28), (26, .iload_n 1), (27, .iaload), (28, .iaload), (29, .istore 4), (31, .goto 17), (34, .iload_n 3), (35, .bipush 67), (37, .if_icmp .ne 11), (40, .aload_n 0), (41, .getfield 28), (44, .iload_n 1), (45, .iaload), (46, .istore 4), (48, .iconst 0), (49, .istore 5), (51, .iload 5), (53, .iload_n 3), (54, .invokestatic 84), (57, .if_icmp .ge 27), (60, .aload_n 0), (61, .getfield 38), (64, .aload_n 0), (65, .getfield 25), (68, .iload_n 1), (69, .iconst 3), (70, .imul), (71, .iload 5), (73, .iadd), (74, .iaload), (75, .iload 4), (77, .iastore), (78, .iinc 5 1), (81, .goto (-30)), (84, .return_)]
def rv_40 : List (Nat × List Nat) := [(1, [2, 0, 0, 85]), (8, [2, 8, 0, 93]), (23, [2, 5, 0, 90]), (41, [2, 5, 0, 90]), (54, [1, 17, 1, 0, 29, 253, 53]), (61, [2, 8, 0, 93]), (65, [2, 4, 0, 89])]
-- 41: FlowEquations$Checker.leastNeedingItself()I
def ins_41 : List (Nat × Instr) := [(0, .aload_n 0), (1, .invokevirtual 69), (4, .iconst 0), (5, .istore_n 1), (6, .iload_n 1), (7, .bipush 8), (9, .if_icmp .ge 24), (12, .aload_n 0), (13, .getfield 15), (16, .iload_n 1), (17, .iaload), (18, .iload_n 1), (19, .invokestatic 55), (22, .ifCond .eq 5), (25, .iload_n 1), (26, .ireturn), (27, .iinc 1 1), (30, .goto (-24)), (33, .iconst (-1)), (34, .ireturn)]
def rv_41 : List (Nat × List Nat) := [(1, [2, 42, 1, 1, 324, 325, 20, 56]), (13, [1, 1, 0, 119]), (19, [1, 33, 2, 0, 39, 299, 53])]
-- 42: FlowEquations$Checker.gatherNeeds()V
def ins_42 : List (Nat × Instr) := [(0, .iconst 0), (1, .istore_n 1), (2, .iload_n 1), (3, .bipush 8), (5, .if_icmp .ge 51), (8, .aload_n 0), (9, .getfield 15), (12, .iload_n 1), (13, .aload_n 0), (14, .getfield 9), (17, .iload_n 1), (18, .invokevirtual 36), (21, .ifCond .eq 27), (24, .aload_n 0), (25, .getfield 9), (28, .getfield 42), (31, .iload_n 1), (32, .aaload), (33, .invokevirtual 72), (36, .aload_n 0), (37, .getfield 9), (40, .iload_n 1), (41, .invokevirtual 51), (44, .ior), (45, .goto 4), (48, .iconst 0), (49, .iastore), (50, .iinc 1 1), (53, .goto (-51)), (56, .iconst 0), (57, .istore_n 1), (58, .iload_n 1), (59, .bipush 8), (61, .if_icmp .ge 51), (64, .iconst 0), (65, .istore_n 2), (66, .iload_n 2), (67, .bipush 8), (69, .if_icmp .ge 37), (72, .aload_n 0), (73, .getfield 15), (76, .iload_n 2), (77, .iaload), (78, .iload_n 1), (79, .invokestatic 55), (82, .ifCond .eq 18), (85, .aload_n 0), (86, .getfield 15), (89, .iload_n 2), (90, .dup2), (91, .iaload), (92, .aload_n 0), (93, .getfield 15), (96, .iload_n 1), (97, .iaload), (98, .ior), (99, .iastore), (100, .iinc 2 1), (103, .goto (-37)), (106, .iinc 1 1), (109, .goto (-51)), (112, .return_)]
def rv_42 : List (Nat × List Nat) := [(9, [1, 1, 0, 119]), (14, [1, 0, 0, 118]), (18, [3, 25, 2, 3, 36, 276, 8, 54]), (25, [1, 0, 0, 118]), (28, [3, 0, 1, 14]), (33, [3, 43, 1, 2, 42, 327, 21, 55]), (37, [1, 0, 0, 118]), (41, [3, 32, 2, 3, 38, 297, 12, 54]), (73, [1, 1, 0, 119]), (79, [1, 33, 2, 0, 39, 299, 53]), (86, [1, 1, 0, 119]), (93, [1, 1, 0, 119])]
-- 43: FlowEquations$Equation.namesOutsideP()I
def ins_43 : List (Nat × Instr) := [(0, .iconst 0), (1, .istore_n 1), (2, .iconst 0), (3, .istore_n 2), (4, .iload_n 2), (5, .aload_n 0), (6, .getfield 15), (9, .if_icmp .ge 39), (12, .aload_n 0), (13, .getfield 28), (16, .iload_n 2), (17, .iaload), (18, .iconst (-1)), (19, .if_icmp .eq 23), (22, .aload_n 0), (23, .getfield 35), (26, .iload_n 2), (27, .baload), (28, .ifCond .ne 14), (31, .iload_n 1), (32, .iconst 1), (33, .aload_n 0), (34, .getfield 28), (37, .iload_n 2), (38, .iaload), (39, .ishl), (40, .ior), (41, .istore_n 1), (42, .iinc 2 1), (45, .goto (-41)), (48, .iload_n 1), (49, .ireturn)]
def rv_43 : List (Nat × List Nat) := [(6, [2, 1, 0, 86]), (13, [2, 5, 0, 90]), (23, [2, 7, 0, 92]), (34, [2, 5, 0, 90])]
-- 44: FlowEquations$Run.arrange([I)V
def ins_44 : List (Nat × Instr) := [(0, .aload_n 0), (1, .iconst 0), (2, .putfield 28), (5, .iconst 0), (6, .istore_n 2), (7, .iload_n 2), (8, .bipush 8), (10, .if_icmp .ge 64), (13, .iconst 0), (14, .istore_n 3), (15, .iload_n 3), (16, .bipush 8), (18, .if_icmp .ge 50), (21, .aload_n 0), (22, .getfield 9), (25, .iload_n 3), (26, .invokevirtual 61), (29, .ifCond .eq 33), (32, .aload_n 1), (33, .iload_n 3), (34, .iaload), (35, .invokestatic 65), (38, .iload_n 2), (39, .if_icmp .ne 23), (42, .aload_n 0), (43, .getfield 25), (46, .aload_n 0), (47, .getfield 28), (50, .iload_n 3), (51, .iastore), (52, .aload_n 0), (53, .dup), (54, .getfield 28), (57, .iconst 1), (58, .iadd), (59, .putfield 28), (62, .iinc 3 1), (65, .goto (-50)), (68, .iinc 2 1), (71, .goto (-64)), (74, .return_)]
def rv_44 : List (Nat × List Nat) := [(2, [4, 5, 0, 132]), (22, [4, 0, 0, 127]), (26, [3, 25, 2, 3, 44, 276, 8, 54]), (35, [0, 45, 1, 0, 331, 332, 66]), (43, [4, 4, 0, 131]), (47, [4, 5, 0, 132]), (54, [4, 5, 0, 132]), (59, [4, 5, 0, 132])]
-- 45: java/lang/Integer.bitCount(I)I
def ins_45 : List (Nat × Instr) := [(0, .iload_n 0), (1, .iload_n 0), (2, .iconst 1), (3, .iushr), (4, .ldc_w 265), (7, .iand), (8, .isub), (9, .istore_n 0), (10, .iload_n 0), (11, .ldc_w 266), (14, .iand), (15, .iload_n 0), (16, .iconst 2), (17, .iushr), (18, .ldc_w 266), (21, .iand), (22, .iadd), (23, .istore_n 0), (24, .iload_n 0), (25, .iload_n 0), (26, .iconst 4), (27, .iushr), (28, .iadd), (29, .ldc_w 267), (32, .iand), (33, .istore_n 0), (34, .iload_n 0), (35, .iload_n 0), (36, .bipush 8), (38, .iushr), (39, .iadd), (40, .istore_n 0), (41, .iload_n 0), (42, .iload_n 0), (43, .bipush 16), (45, .iushr), (46, .iadd), (47, .istore_n 0), (48, .iload_n 0), (49, .bipush 63), (51, .iand), (52, .ireturn)]
def rv_45 : List (Nat × List Nat) := [(4, [334]), (11, [335]), (18, [335]), (29, [336])]
-- 46: FlowEquations$Program.definedCount()I
def ins_46 : List (Nat × Instr) := [(0, .iconst 0), (1, .istore_n 1), (2, .iconst 0), (3, .istore_n 2), (4, .iload_n 2), (5, .bipush 8), (7, .if_icmp .ge 20), (10, .aload_n 0), (11, .iload_n 2), (12, .invokevirtual 30), (15, .ifCond .eq 6), (18, .iinc 1 1), (21, .iinc 2 1), (24, .goto (-20)), (27, .iload_n 1), (28, .ireturn)]
def rv_46 : List (Nat × List Nat) := [(12, [2, 25, 2, 3, 339, 276, 8, 54])]
-- 47: FlowEquations.step(I)I
def ins_47 : List (Nat × Instr) := [(0, .iload_n 1), (1, .iconst 1), (2, .if_icmp .lt 9), (5, .iload_n 1), (6, .bipush 20), (8, .if_icmp .le 5), (11, .iconst (-1)), (12, .ireturn), (13, .aload_n 0), (14, .getfield 50), (17, .ifCond .ne 6), (20, .bipush (-4)), (22, .ireturn), (23, .iconst 0), (24, .istore_n 2), (25, .iload_n 2), (26, .iload_n 1), (27, .if_icmp .ge 16), (30, .aload_n 0), (31, .getfield 39), (34, .invokevirtual 115), (37, .iinc 2 1), (40, .goto (-15)), (43, .aload_n 0), (44, .getfield 39), (47, .getfield 118), (50, .ireturn)]
def rv_47 : List (Nat × List Nat) := [(14, [0, 7, 0, 155]), (31, [0, 5, 0, 153]), (34, [3, 48, 1, 4, 46, 344, 24, 57]), (44, [0, 5, 0, 153]), (47, [4, 9, 1, 26])]
-- 48: FlowEquations$Run.passInstant()V
def ins_48 : List (Nat × Instr) := [(0, .aload_n 0), (1, .iconst 0), (2, .putfield 32), (5, .aload_n 0), (6, .iconst 1), (7, .putfield 35), (10, .iconst 0), (11, .istore_n 1), (12, .iload_n 1), (13, .aload_n 0), (14, .getfield 28), (17, .if_icmp .ge 19), (20, .aload_n 0), (21, .aload_n 0), (22, .getfield 25), (25, .iload_n 1), (26, .iaload), (27, .invokevirtual 75), (30, .iinc 1 1), (33, .goto (-21)), (36, .iconst 0), (37, .istore_n 1), (38, .iload_n 1), (39, .aload_n 0), (40, .getfield 28), (43, .if_icmp .ge 27), (46, .aload_n 0), (47, .aload_n 0), (48, .getfield 9), (51, .getfield 50), (54, .aload_n 0), (55, .getfield 25), (58, .iload_n 1), (59, .iaload), (60, .aaload), (61, .invokevirtual 79), (64, .iinc 1 1), (67, .goto (-29)), (70, .aload_n 0), (71, .dup), (72, .getfield 38), (75, .aload_n 0), (76, .getfield 35), (79, .ior), (80, .putfield 38), (83, .aload_n 0), (84, .dup), (85, .getfield 41), (88, .iconst 1), (89, .iadd), (90, .putfield 41), (93, .return_)]
def rv_48 : List (Nat × List Nat) := [(2, [4, 6, 0, 133]), (7, [4, 7, 0, 134]), (14, [4, 5, 0, 132]), (22, [4, 4, 0, 131]), (27, [2, 49, 2, 4, 346, 347, 25, 57]), (40, [4, 5, 0, 132]), (48, [4, 0, 0, 127]), (51, [3, 0, 1, 13]), (55, [4, 4, 0, 131]), (61, [2, 56, 2, 4, 366, 367, 32, 57]), (72, [4, 8, 0, 135]), (76, [4, 7, 0, 134]), (80, [4, 8, 0, 135]), (85, [4, 9, 0, 136]), (90, [4, 9, 0, 136])]
-- 49: FlowEquations$Run.settle(I)V
def ins_49 : List (Nat × Instr) := [(0, .aload_n 0), (1, .aload_n 0), (2, .getfield 9), (5, .getfield 83), (8, .iload_n 1), (9, .iaload), (10, .invokevirtual 86), (13, .ifCond .ne 4), (16, .return_), (17, .aload_n 0), (18, .getfield 9), (21, .getfield 50), (24, .iload_n 1), (25, .aaload), (26, .astore_n 2), (27, .aload_n 0), (28, .aload_n 2), (29, .invokevirtual 89), (32, .aload_n 0), (33, .getfield 19), (36, .iload_n 1), (37, .aload_n 2), (38, .getfield 92), (41, .iconst 0), (42, .iaload), (43, .iastore), (44, .aload_n 0), (45, .dup), (46, .getfield 32), (49, .iconst 1), (50, .iload_n 1), (51, .ishl), (52, .ior), (53, .putfield 32), (56, .aload_n 0), (57, .getfield 22), (60, .iload_n 1), (61, .dup2), (62, .iaload), (63, .iconst 1), (64, .iadd), (65, .iastore), (66, .aload_n 0), (67, .getfield 19), (70, .iload_n 1), (71, .iaload), (72, .ifCond .eq 17), (75, .aload_n 0), (76, .dup), (77, .getfield 35), (80, .iconst 1), (81, .iload_n 1), (82, .iconst 1), (83, .iadd), (84, .ishl), (85, .ior), (86, .putfield 35), (89, .return_)]
def rv_49 : List (Nat × List Nat) := [(2, [4, 0, 0, 127]), (5, [3, 1, 1, 18]), (10, [2, 50, 2, 4, 349, 350, 26, 57]), (18, [4, 0, 0, 127]), (21, [3, 0, 1, 13]), (29, [2, 51, 2, 4, 352, 353, 27, 57]), (33, [4, 2, 0, 129]), (38, [2, 9, 1, 10]), (46, [4, 6, 0, 133]), (53, [4, 6, 0, 133]), (57, [4, 3, 0, 130]), (67, [4, 2, 0, 129]), (77, [4, 7, 0, 134]), (86, [4, 7, 0, 134])]
-- 50: FlowEquations$Run.isActive(I)Z
def ins_50 : List (Nat × Instr) := [(0, .aload_n 0), (1, .getfield 35), (4, .iload_n 1), (5, .iconst 1), (6, .iadd), (7, .ishr), (8, .iconst 1), (9, .iand), (10, .ifCond .eq 7), (13, .iconst 1), (14, .goto 4), (17, .iconst 0), (18, .ireturn)]
def rv_50 : List (Nat × List Nat) := [(1, [4, 7, 0, 134])]
-- 51: FlowEquations$Run.evaluate(LFlowEquations$Equation;)V
def ins_51 : List (Nat × Instr) := [(0, .aload_n 1), (1, .getfield 95), (4, .iconst 1), (5, .isub), (6, .istore_n 2), (7, .iload_n 2), (8, .ifCond .lt 21), (11, .aload_n 1), (12, .getfield 92), (15, .iload_n 2), (16, .aload_n 0), (17, .aload_n 1), (18, .iload_n 2), (19, .invokevirtual 118), (22, .iastore), (23, .iinc 2 (-1)), (26, .goto (-19)), (29, .return_)]
def rv_51 : List (Nat × List Nat) := [(1, [2, 1, 1, 5]), (12, [2, 9, 1, 10]), (19, [2, 52, 3, 4, 355, 356, 28, 57])]
-- 52: FlowEquations$Run.valueAt(LFlowEquations$Equation;I)I
def ins_52 : List (Nat × Instr) := [(0, .aload_n 1), (1, .getfield 109), (4, .iload_n 2), (5, .iaload), (6, .istore_n 3), (7, .iload_n 3), (8, .invokestatic 121), (11, .ifCond .eq 8), (14, .iload_n 3), (15, .bipush 48), (17, .isub), (18, .ireturn), (19, .iload_n 3), (20, .invokestatic 124), (23, .ifCond .eq 13), (26, .aload_n 0), (27, .getfield 19), (30, .iload_n 3), (31, .bipush 97), (33, .isub), (34, .iaload), (35, .ireturn), (36, .iload_n 3), (37, .invokestatic 127), (40, .ifCond .eq 13), (43, .aload_n 0), (44, .getfield 15), (47, .iload_n 3), (48, .bipush 112), (50, .isub), (51, .iaload), (52, .ireturn), (53, .aload_n 0), (54, .aload_n 1), (55, .iload_n 2), (56, .invokevirtual 130), (59, .ireturn)]
def rv_52 : List (Nat × List Nat) := [(1, [2, 0, 1, 2]), (8, [1, 7, 1, 0, 47, 172, 53]), (20, [1, 8, 1, 0, 48, 175, 53]), (27, [4, 2, 0, 129]), (37, [1, 9, 1, 0, 49, 178, 53]), (44, [4, 1, 0, 128]), (56, [2, 53, 3, 4, 358, 359, 29, 57])]
-- 53: FlowEquations$Run.operatorValue(LFlowEquations$Equation;I)I
def ins_53 : List (Nat × Instr) := [(0, .aload_n 1), (1, .iload_n 2), (2, .iconst 0), (3, .invokevirtual 105), (6, .istore_n 3), (7, .aload_n 1), (8, .iload_n 2), (9, .iconst 1), (10, .invokevirtual 105), (13, .istore 4), (15, .aload_n 1), (16, .iload_n 2), (17, .iconst 2), (18, .invokevirtual 105), (21, .istore 5), (23, .aload_n 1), (24, .getfield 109), (27, .iload_n 2), (28, .iaload), (29, .lookupswitch 236 #[(33, 161), (38, 146), (42, 117), (43, 107), (45, 112), (60, 122), (61, 134), (63, 171), (67, 212), (70, 190), (80, 183), (87, 210)]), (136, .iload_n 3), (137, .iload 4), (139, .iadd), (140, .ireturn), (141, .iload_n 3), (142, .iload 4), (144, .isub), (145, .ireturn), (146, .iload_n 3), (147, .iload 4), (149, .imul), (150, .ireturn), (151, .iload_n 3), (152, .iload 4), (154, .if_icmp .ge 7), (157, .iconst 1), (158, .goto 4), (161, .iconst 0), (162, .ireturn), (163, .iload_n 3), (164, .iload 4), (166, .if_icmp .ne 7), (169, .iconst 1), (170, .goto 4), (173, .iconst 0), (174, .ireturn), (175, .iload_n 3), (176, .ifCond .eq 12), (179, .iload 4), (181, .ifCond .eq 7), (184, .iconst 1), (185, .goto 4), (188, .iconst 0), (189, .ireturn), (190, .iload_n 3), (191, .ifCond .ne 7), (194, .iconst 1), (195, .goto 4), (198, .iconst 0), (199, .ireturn), (200, .iload_n 3), (201, .ifCond .eq 8), (204, .iload 4), (206, .goto 5), (209, .iload 5), (211, .ireturn), (212, .aload_n 1), (213, .getfield 56), (216, .iload_n 2), (217, .iaload), (218, .ireturn), (219, .aload_n 0), (220, .aload_n 1), (221, .getfield 115), (224, .iload_n 2), (225, .iaload), (226, .invokevirtual 133), (229, .ifCond .eq 8), (232, .iload 4), (234, .goto 4), (237, .iload_n 3), (238, .ireturn), (239, .iload_n 3), (240, .ireturn), (241, .aload_n 0), (242, .aload_n 1), (243, .getfield 112), (246, .iload_n 2), (247, .iaload), (248, .invokevirtual 86), (251, .ifCond .eq 7), (254, .iload_n 3), (255, .goto 9), (258, .aload_n 1), (259, .getfield 56), (262, .iload_n 2), (263, .iaload), (264, .ireturn), (265, .iconst 0), (266, .ireturn)]
def rv_53 : List (Nat × List Nat) := [(3, [3, 54, 3, 2, 50, 361, 30, 55]), (10, [3, 54, 3, 2, 50, 361, 30, 55]), (18, [3, 54, 3, 2, 50, 361, 30, 55]), (24, [2, 0, 1, 2]), (213, [2, 10, 1, 11]), (221, [2, 8, 1, 9]), (226, [2, 55, 2, 4, 363, 364, 31, 57]), (243, [2, 5, 1, 8]), (248, [2, 50, 2, 4, 349, 350, 26, 57]), (259, [2, 10, 1, 11])]
-- 54: FlowEquations$Equation.partValue(II)I
def ins_54 : List (Nat × Instr) := [(0, .aload_n 0), (1, .getfield 25), (4, .iload_n 1), (5, .iconst 3), (6, .imul), (7, .iload_n 2), (8, .iadd), (9, .iaload), (10, .istore_n 3), (11, .iload_n 3), (12, .iconst (-1)), (13, .if_icmp .ne 7), (16, .iconst 0), (17, .goto 9), (20, .aload_n 0), (21, .getfield 41), (24, .iload_n 3), (25, .iaload), (26, .ireturn)]
def rv_54 : List (Nat × List Nat) := [(1, [2, 4, 0, 89]), (21, [2, 9, 0, 94])]
-- 55: FlowEquations$Run.hasBegun(I)Z
def ins_55 : List (Nat × Instr) := [(0, .aload_n 0), (1, .getfield 38), (4, .iload_n 1), (5, .iconst 1), (6, .iadd), (7, .ishr), (8, .iconst 1), (9, .iand), (10, .ifCond .eq 7), (13, .iconst 1), (14, .goto 4), (17, .iconst 0), (18, .ireturn)]
def rv_55 : List (Nat × List Nat) := [(1, [4, 8, 0, 135])]
-- 56: FlowEquations$Run.remember(LFlowEquations$Equation;)V
def ins_56 : List (Nat × Instr) := [(0, .aload_n 0), (1, .aload_n 1), (2, .invokevirtual 89), (5, .iconst 0), (6, .istore_n 2), (7, .iload_n 2), (8, .aload_n 1), (9, .getfield 95), (12, .if_icmp .ge 42), (15, .aload_n 1), (16, .iload_n 2), (17, .invokevirtual 98), (20, .ifCond .eq 28), (23, .aload_n 0), (24, .aload_n 0), (25, .aload_n 1), (26, .iload_n 2), (27, .invokevirtual 101), (30, .invokevirtual 86), (33, .ifCond .eq 15), (36, .aload_n 1), (37, .getfield 56), (40, .iload_n 2), (41, .aload_n 1), (42, .iload_n 2), (43, .iconst 0), (44, .invokevirtual 105), (47, .iastore), (48, .iinc 2 1), (51, .goto (-44)), (54, .return_)]
def rv_56 : List (Nat × List Nat) := [(2, [2, 51, 2, 4, 352, 353, 27, 57]), (9, [2, 1, 1, 5]), (17, [3, 57, 2, 2, 51, 369, 33, 55]), (27, [2, 58, 3, 4, 371, 372, 34, 57]), (30, [2, 50, 2, 4, 349, 350, 26, 57]), (37, [2, 10, 1, 11]), (44, [3, 54, 3, 2, 50, 361, 30, 55])]
-- 57: FlowEquations$Equation.remembersAt(I)Z
def ins_57 : List (Nat × Instr) := [(0, .aload_n 0), (1, .getfield 9), (4, .iload_n 1), (5, .iaload), (6, .bipush 80), (8, .if_icmp .eq 14), (11, .aload_n 0), (12, .getfield 9), (15, .iload_n 1), (16, .iaload), (17, .bipush 67), (19, .if_icmp .ne 7), (22, .iconst 1), (23, .goto 4), (26, .iconst 0), (27, .ireturn)]
def rv_57 : List (Nat × List Nat) := [(1, [2, 0, 0, 85]), (12, [2, 0, 0, 85])]
-- 58: FlowEquations$Run.rememberingClock(LFlowEquations$Equation;I)I
def ins_58 : List (Nat × Instr) := [(0, .aload_n 1), (1, .getfield 109), (4, .iload_n 2), (5, .iaload), (6, .bipush 67), (8, .if_icmp .ne 12), (11, .aload_n 1), (12, .getfield 112), (15, .iload_n 2), (16, .iaload), (17, .goto 9), (20, .aload_n 1), (21, .getfield 115), (24, .iload_n 2), (25, .iaload), (26, .ireturn)]
def rv_58 : List (Nat × List Nat) := [(1, [2, 0, 1, 2]), (12, [2, 5, 1, 8]), (21, [2, 8, 1, 9])]
-- 59: FlowEquations.value(I)J
def ins_59 : List (Nat × Instr) := [(0, .iload_n 1), (1, .invokestatic 62), (4, .ifCond .eq 14), (7, .aload_n 0), (8, .getfield 39), (11, .iload_n 1), (12, .invokevirtual 121), (15, .ifCond .ne 7), (18, .ldc2_w 124), (21, .lreturn), (22, .aload_n 0), (23, .getfield 39), (26, .getfield 126), (29, .iload_n 1), (30, .iaload), (31, .i2l), (32, .lreturn)]
def rv_59 : List (Nat × List Nat) := [(1, [0, 12, 1, 0, 236, 237, 53]), (8, [0, 5, 0, 153]), (12, [3, 60, 2, 4, 52, 378, 35, 57]), (18, [380]), (23, [0, 5, 0, 153]), (26, [4, 2, 1, 23])]
-- 60: FlowEquations$Run.isPresent(I)Z
def ins_60 : List (Nat × Instr) := [(0, .aload_n 0), (1, .getfield 32), (4, .iload_n 1), (5, .invokestatic 71), (8, .ireturn)]
def rv_60 : List (Nat × List Nat) := [(1, [4, 6, 0, 133]), (5, [1, 33, 2, 0, 53, 299, 53])]
-- 61: FlowEquations.present(I)I
def ins_61 : List (Nat × Instr) := [(0, .iload_n 1), (1, .invokestatic 62), (4, .ifCond .ne 5), (7, .iconst (-1)), (8, .ireturn), (9, .aload_n 0), (10, .getfield 39), (13, .getfield 129), (16, .iload_n 1), (17, .iaload), (18, .ireturn)]
def rv_61 : List (Nat × List Nat) := [(1, [0, 12, 1, 0, 236, 237, 53]), (10, [0, 5, 0, 153]), (13, [4, 3, 1, 24])]
-- 62: FlowEquations.memory(II)J
def ins_62 : List (Nat × Instr) := [(0, .aload_n 0), (1, .getfield 50), (4, .ifCond .eq 14), (7, .aload_n 0), (8, .getfield 23), (11, .iload_n 1), (12, .invokevirtual 82), (15, .ifCond .ne 7), (18, .ldc2_w 124), (21, .lreturn), (22, .aload_n 0), (23, .getfield 23), (26, .getfield 85), (29, .iload_n 1), (30, .aaload), (31, .astore_n 3), (32, .iload_n 2), (33, .ifCond .lt 19), (36, .iload_n 2), (37, .aload_n 3), (38, .getfield 89), (41, .if_icmp .ge 11), (44, .aload_n 3), (45, .iload_n 2), (46, .invokevirtual 132), (49, .ifCond .ne 7), (52, .ldc2_w 124), (55, .lreturn), (56, .aload_n 3), (57, .getfield 135), (60, .iload_n 2), (61, .iaload), (62, .i2l), (63, .lreturn)]
def rv_62 : List (Nat × List Nat) := [(1, [0, 7, 0, 155]), (8, [0, 3, 0, 151]), (12, [3, 25, 2, 3, 33, 276, 8, 54]), (18, [380]), (23, [0, 3, 0, 151]), (26, [3, 0, 1, 15]), (38, [2, 1, 1, 4]), (46, [3, 57, 2, 2, 54, 369, 33, 55]), (52, [380]), (57, [2, 10, 1, 12])]
-- 63: FlowEquations.info(I)I
def ins_63 : List (Nat × Instr) := [(0, .iload_n 1), (1, .tableswitch 101 0 6 #[43, 48, 53, 61, 74, 82, 90]), (44, .aload_n 0), (45, .getfield 13), (48, .ireturn), (49, .aload_n 0), (50, .getfield 17), (53, .ireturn), (54, .aload_n 0), (55, .getfield 23), (58, .invokevirtual 112), (61, .ireturn), (62, .aload_n 0), (63, .getfield 50), (66, .ifCond .eq 7), (69, .iconst 1), (70, .goto 4), (73, .iconst 0), (74, .ireturn), (75, .aload_n 0), (76, .getfield 39), (79, .getfield 118), (82, .ireturn), (83, .aload_n 0), (84, .getfield 23), (87, .invokevirtual 138), (90, .ireturn), (91, .aload_n 0), (92, .getfield 39), (95, .getfield 141), (98, .invokestatic 144), (101, .ireturn), (102, .iconst (-1)), (103, .ireturn)]
def rv_63 : List (Nat × List Nat) := [(45, [0, 1, 0, 149]), (50, [0, 2, 0, 150]), (55, [0, 3, 0, 151]), (58, [3, 46, 1, 3, 45, 337, 23, 54]), (63, [0, 7, 0, 155]), (76, [0, 5, 0, 153]), (79, [4, 9, 1, 26]), (84, [0, 3, 0, 151]), (87, [3, 64, 1, 3, 55, 393, 36, 54]), (92, [0, 5, 0, 153]), (95, [4, 6, 1, 25]), (98, [0, 45, 1, 0, 395, 332, 66])]
-- 64: FlowEquations$Program.characterCount()I
def ins_64 : List (Nat × Instr) := [(0, .iconst 0), (1, .istore_n 1), (2, .iconst 0), (3, .istore_n 2), (4, .iload_n 2), (5, .bipush 8), (7, .if_icmp .ge 21), (10, .iload_n 1), (11, .aload_n 0), (12, .getfield 11), (15, .iload_n 2), (16, .aaload), (17, .getfield 26), (20, .iadd), (21, .istore_n 1), (22, .iinc 2 1), (25, .goto (-21)), (28, .iload_n 1), (29, .ireturn)]
def rv_64 : List (Nat × List Nat) := [(12, [3, 0, 0, 109]), (17, [2, 1, 1, 3])]
-- 65: FlowEquationsModel.<init>()V
def ins_65 : List (Nat × Instr) := [(0, .aload_n 0), (1, .invokespecial 1), (4, .aload_n 0), (5, .bipush 24), (7, .newarray .int), (9, .putfield 7), (12, .aload_n 0), (13, .iconst (-1)), (14, .putfield 13), (17, .aload_n 0), (18, .sipush 192), (21, .newarray .int), (23, .putfield 17), (26, .aload_n 0), (27, .bipush 8), (29, .newarray .int), (31, .putfield 20), (34, .aload_n 0), (35, .sipush 192), (38, .newarray .int), (40, .putfield 23), (43, .aload_n 0), (44, .sipush 192), (47, .newarray .int), (49, .putfield 26), (52, .aload_n 0), (53, .sipush 192), (56, .newarray .int), (58, .putfield 29), (61, .aload_n 0), (62, .sipush 192), (65, .newarray .int), (67, .putfield 32), (70, .aload_n 0), (71, .sipush 192), (74, .newarray .int), (76, .putfield 35), (79, .aload_n 0), (80, .sipush 192), (83, .newarray .boolean), (85, .putfield 38), (88, .aload_n 0), (89, .bipush 24), (91, .newarray .boolean), (93, .putfield 42), (96, .aload_n 0), (97, .bipush 8), (99, .newarray .int), (101, .putfield 45), (104, .aload_n 0), (105, .iconst 4), (106, .newarray .int), (108, .putfield 48), (111, .aload_n 0), (112, .bipush 8), (114, .newarray .boolean), (116, .putfield 51), (119, .aload_n 0), (120, .bipush 8), (122, .newarray .boolean), (124, .putfield 54), (127, .aload_n 0), (128, .bipush 64), (130, .newarray .boolean), (132, .putfield 57), (135, .aload_n 0), (136, .bipush 8), (138, .newarray .int), (140, .putfield 60), (143, .aload_n 0), (144, .bipush 8), (146, .newarray .int), (148, .putfield 63), (151, .aload_n 0), (152, .bipush 9), (154, .newarray .int), (156, .putfield 66), (159, .aload_n 0), (160, .bipush 24), (162, .newarray .int), (164, .putfield 69), (167, .iconst 0), (168, .istore_n 1), (169, .iload_n 1), (170, .bipush 8), (172, .if_icmp .ge 16), (175, .aload_n 0), (176, .getfield 45), (179, .iload_n 1), (180, .iconst (-1)), (181, .iastore), (182, .iinc 1 1), (185, .goto (-16)), (188, .return_)]
def rv_65 : List (Nat × List Nat) := [(1, [6, 900, 1, 0, 401, 0, 0]), (7, [107]), (9, [5, 0, 2, 402]), (14, [5, 2, 0, 404]), (21, [107]), (23, [5, 4, 2, 406]), (29, [107]), (31, [5, 5, 2, 407]), (38, [107]), (40, [5, 6, 2, 408]), (47, [107]), (49, [5, 7, 2, 409]), (56, [107]), (58, [5, 8, 2, 410]), (65, [107]), (67, [5, 9, 2, 411]), (74, [107]), (76, [5, 10, 2, 412]), (83, [108]), (85, [5, 11, 2, 413]), (91, [108]), (93, [5, 12, 2, 414]), (99, [107]), (101, [5, 13, 2, 415]), (106, [107]), (108, [5, 14, 2, 416]), (114, [108]), (116, [5, 17, 2, 419]), (122, [108]), (124, [5, 18, 2, 420]), (130, [108]), (132, [5, 19, 2, 421]), (138, [107]), (140, [5, 20, 2, 422]), (146, [107]), (148, [5, 21, 2, 423]), (154, [107]), (156, [5, 22, 2, 424]), (162, [107]), (164, [5, 23, 2, 425]), (176, [5, 13, 0, 415])]
-- 66: FlowEquationsModel.type(I)I
def ins_66 : List (Nat × Instr) := [(0, .iload_n 1), (1, .bipush 33), (3, .if_icmp .eq 33), (6, .iload_n 1), (7, .bipush 63), (9, .if_icmp .eq 27), (12, .iload_n 1), (13, .bipush 80), (15, .if_icmp .eq 21), (18, .iload_n 1), (19, .bipush 70), (21, .if_icmp .eq 15), (24, .iload_n 1), (25, .bipush 87), (27, .if_icmp .eq 9), (30, .iload_n 1), (31, .bipush 67), (33, .if_icmp .ne 7), (36, .iconst 1), (37, .goto 4), (40, .iconst 0), (41, .istore_n 2), (42, .iload_n 1), (43, .invokestatic 72), (46, .ifCond .ne 30), (49, .iload_n 1), (50, .invokestatic 76), (53, .ifCond .ne 23), (56, .iload_n 1), (57, .invokestatic 79), (60, .ifCond .ne 16), (63, .iload_n 1), (64, .invokestatic 82), (67, .ifCond .ne 9), (70, .iload_n 2), (71, .ifCond .ne 5), (74, .iconst (-1)), (75, .ireturn), (76, .aload_n 0), (77, .getfield 85), (80, .bipush 24), (82, .if_icmp .ne 6), (85, .bipush (-2)), (87, .ireturn), (88, .aload_n 0), (89, .getfield 7), (92, .aload_n 0), (93, .getfield 85), (96, .iload_n 1), (97, .iastore), (98, .aload_n 0), (99, .dup), (100, .getfield 85), (103, .iconst 1), (104, .iadd), (105, .putfield 85), (108, .aload_n 0), (109, .getfield 85), (112, .ireturn)]
def rv_66 : List (Nat × List Nat) := [(43, [0, 67, 1, 0, 454, 455, 58]), (50, [0, 68, 1, 0, 457, 458, 58]), (57, [0, 69, 1, 0, 460, 461, 58]), (64, [0, 70, 1, 0, 463, 464, 58]), (77, [5, 1, 0, 403]), (89, [5, 0, 0, 402]), (93, [5, 1, 0, 403]), (100, [5, 1, 0, 403]), (105, [5, 1, 0, 403]), (109, [5, 1, 0, 403])]
-- 67: FlowEquationsModel.digit(I)Z
def ins_67 : List (Nat × Instr) := [(0, .iload_n 0), (1, .bipush 48), (3, .if_icmp .lt 13), (6, .iload_n 0), (7, .bipush 57), (9, .if_icmp .gt 7), (12, .iconst 1), (13, .goto 4), (16, .iconst 0), (17, .ireturn)]
def rv_67 : List (Nat × List Nat) := []
-- 68: FlowEquationsModel.variable(I)Z
def ins_68 : List (Nat × Instr) := [(0, .iload_n 0), (1, .bipush 97), (3, .if_icmp .lt 13), (6, .iload_n 0), (7, .bipush 104), (9, .if_icmp .gt 7), (12, .iconst 1), (13, .goto 4), (16, .iconst 0), (17, .ireturn)]
def rv_68 : List (Nat × List Nat) := []
-- 69: FlowEquationsModel.isInput(I)Z
def ins_69 : List (Nat × Instr) := [(0, .iload_n 0), (1, .bipush 112), (3, .if_icmp .lt 13), (6, .iload_n 0), (7, .bipush 115), (9, .if_icmp .gt 7), (12, .iconst 1), (13, .goto 4), (16, .iconst 0), (17, .ireturn)]
def rv_69 : List (Nat × List Nat) := []
-- 70: FlowEquationsModel.pair(I)Z
def ins_70 : List (Nat × Instr) := [(0, .iload_n 0), (1, .bipush 43), (3, .if_icmp .eq 33), (6, .iload_n 0), (7, .bipush 45), (9, .if_icmp .eq 27), (12, .iload_n 0), (13, .bipush 42), (15, .if_icmp .eq 21), (18, .iload_n 0), (19, .bipush 60), (21, .if_icmp .eq 15), (24, .iload_n 0), (25, .bipush 61), (27, .if_icmp .eq 9), (30, .iload_n 0), (31, .bipush 38), (33, .if_icmp .ne 7), (36, .iconst 1), (37, .goto 4), (40, .iconst 0), (41, .ireturn)]
def rv_70 : List (Nat × List Nat) := []
-- 71: FlowEquationsModel.types(J)I
def ins_71 : List (Nat × Instr) := [(0, .bipush 56), (2, .istore_n 3), (3, .iload_n 3), (4, .ifCond .lt 43), (7, .lload_n 1), (8, .iload_n 3), (9, .lushr), (10, .l2i), (11, .sipush 255), (14, .iand), (15, .istore 4), (17, .iload 4), (19, .ifCond .ne 6), (22, .goto 19), (25, .aload_n 0), (26, .iload 4), (28, .invokevirtual 88), (31, .istore 5), (33, .iload 5), (35, .ifCond .ge 6), (38, .iload 5), (40, .ireturn), (41, .iinc 3 (-8)), (44, .goto (-41)), (47, .aload_n 0), (48, .getfield 85), (51, .ireturn)]
def rv_71 : List (Nat × List Nat) := [(28, [2, 66, 2, 5, 470, 451, 452, 58]), (48, [5, 1, 0, 403])]
-- 72: FlowEquationsModel.define(I)I
def ins_72 : List (Nat × Instr) := [(0, .iload_n 1), (1, .ifCond .lt 9), (4, .iload_n 1), (5, .bipush 7), (7, .if_icmp .le 5), (10, .iconst (-1)), (11, .ireturn), (12, .aload_n 0), (13, .getfield 85), (16, .istore_n 2), (17, .aload_n 0), (18, .getfield 13), (21, .istore_n 3), (22, .aload_n 0), (23, .invokevirtual 95), (26, .istore 4), (28, .aload_n 0), (29, .iconst 0), (30, .putfield 85), (33, .iload 4), (35, .ifCond .ne 6), (38, .bipush (-3)), (40, .ireturn), (41, .aload_n 0), (42, .iload_n 3), (43, .putfield 13), (46, .aload_n 0), (47, .getfield 20), (50, .iload_n 1), (51, .iload_n 2), (52, .iastore), (53, .iconst 0), (54, .istore 5), (56, .iload 5), (58, .iload_n 2), (59, .if_icmp .ge 47), (62, .aload_n 0), (63, .getfield 17), (66, .iload_n 1), (67, .bipush 24), (69, .imul), (70, .iload 5), (72, .iadd), (73, .aload_n 0), (74, .getfield 7), (77, .iload 5), (79, .iaload), (80, .iastore), (81, .aload_n 0), (82, .getfield 38), (85, .iload_n 1), (86, .bipush 24), (88, .imul), (89, .iload 5), (91, .iadd), (92, .aload_n 0), (93, .getfield 42), (96, .iload 5), (98, .baload), (99, .bastore), (100, .iinc 5 1), (103, .goto (-47)), (106, .aload_n 0), (107, .iload_n 1), (108, .invokevirtual 99), (111, .aload_n 0), (112, .iconst 0), (113, .putfield 103), (116, .aload_n 0), (117, .getfield 92), (120, .ireturn)]
def rv_72 : List (Nat × List Nat) := [(13, [5, 1, 0, 403]), (18, [5, 2, 0, 404]), (23, [2, 73, 1, 5, 475, 476, 37, 58]), (30, [5, 1, 0, 403]), (43, [5, 2, 0, 404]), (47, [5, 5, 0, 407]), (63, [5, 4, 0, 406]), (74, [5, 0, 0, 402]), (82, [5, 11, 0, 413]), (93, [5, 12, 0, 414]), (108, [2, 74, 2, 5, 478, 479, 38, 58]), (113, [5, 15, 0, 417]), (117, [5, 3, 0, 405])]
-- 73: FlowEquationsModel.good()Z
def ins_73 : List (Nat × Instr) := [(0, .iconst 1), (1, .istore_n 1), (2, .aload_n 0), (3, .getfield 69), (6, .iconst 0), (7, .iconst 1), (8, .iastore), (9, .aload_n 0), (10, .iconst 0), (11, .putfield 92), (14, .iconst 0), (15, .istore_n 2), (16, .iload_n 2), (17, .aload_n 0), (18, .getfield 85), (21, .if_icmp .ge 224), (24, .aload_n 0), (25, .iload_n 2), (26, .putfield 13), (29, .iload_n 1), (30, .ifCond .ne 5), (33, .iconst 0), (34, .ireturn), (35, .iinc 1 (-1)), (38, .aload_n 0), (39, .getfield 7), (42, .iload_n 2), (43, .iaload), (44, .istore_n 3), (45, .aload_n 0), (46, .getfield 69), (49, .iload_n 1), (50, .iaload), (51, .istore 4), (53, .aload_n 0), (54, .getfield 42), (57, .iload_n 2), (58, .iload 4), (60, .ifCond .le 7), (63, .iconst 1), (64, .goto 4), (67, .iconst 0), (68, .bastore), (69, .iload 4), (71, .ifCond .ne 12), (74, .iload_n 3), (75, .invokestatic 76), (78, .ifCond .ne 161), (81, .iconst 0), (82, .ireturn), (83, .iload 4), (85, .aload_n 0), (86, .getfield 92), (89, .if_icmp .le 9), (92, .aload_n 0), (93, .iload 4), (95, .putfield 92), (98, .iload_n 3), (99, .invokestatic 72), (102, .ifCond .ne 137), (105, .iload_n 3), (106, .invokestatic 76), (109, .ifCond .ne 130), (112, .iload_n 3), (113, .invokestatic 79), (116, .ifCond .eq 6), (119, .goto 120), (122, .iload 4), (124, .bipush 6), (126, .if_icmp .ne 5), (129, .iconst 0), (130, .ireturn), (131, .iload_n 3), (132, .bipush 63), (134, .if_icmp .ne 7), (137, .iconst 3), (138, .goto 21), (141, .iload_n 3), (142, .invokestatic 82), (145, .ifCond .ne 9), (148, .iload_n 3), (149, .bipush 70), (151, .if_icmp .ne 7), (154, .iconst 2), (155, .goto 4), (158, .iconst 1), (159, .istore 5), (161, .iload_n 3), (162, .bipush 87), (164, .if_icmp .ne 10), (167, .aload_n 0), (168, .getfield 69), (171, .iload_n 1), (172, .iconst 0), (173, .iastore), (174, .iload_n 3), (175, .bipush 87), (177, .if_icmp .ne 6), (180, .iinc 1 1), (183, .iconst 0), (184, .istore 6), (186, .iload 6), (188, .iload 5), (190, .if_icmp .ge 22), (193, .aload_n 0), (194, .getfield 69), (197, .iload_n 1), (198, .iload 6), (200, .iadd), (201, .iload 4), (203, .iconst 1), (204, .iadd), (205, .iastore), (206, .iinc 6 1), (209, .goto (-23)), (212, .iload_n 1), (213, .iload 5), (215, .iadd), (216, .istore_n 1), (217, .iload_n 3), (218, .bipush 67), (220, .if_icmp .ne 10), (223, .aload_n 0), (224, .getfield 69), (227, .iload_n 1), (228, .iconst 0), (229, .iastore), (230, .iload_n 3), (231, .bipush 67), (233, .if_icmp .ne 6), (236, .iinc 1 1), (239, .iinc 2 1), (242, .goto (-226)), (245, .aload_n 0), (246, .aload_n 0), (247, .getfield 85), (250, .putfield 13), (253, .iload_n 1), (254, .ifCond .ne 7), (257, .iconst 1), (258, .goto 4), (261, .iconst 0), (262, .ireturn)]
def rv_73 : List (Nat × List Nat) := [(3, [5, 23, 0, 425]), (11, [5, 3, 0, 405]), (18, [5, 1, 0, 403]), (26, [5, 2, 0, 404]), (39, [5, 0, 0, 402]), (46, [5, 23, 0, 425]), (54, [5, 12, 0, 414]), (75, [0, 68, 1, 0, 457, 458, 58]), (86, [5, 3, 0, 405]), (95, [5, 3, 0, 405]), (99, [0, 67, 1, 0, 454, 455, 58]), (106, [0, 68, 1, 0, 457, 458, 58]), (113, [0, 69, 1, 0, 460, 461, 58]), (142, [0, 70, 1, 0, 463, 464, 58]), (168, [5, 23, 0, 425]), (194, [5, 23, 0, 425]), (224, [5, 23, 0, 425]), (247, [5, 1, 0, 403]), (250, [5, 2, 0, 404])]
-- 74: FlowEquationsModel.findEnds(I)V
def ins_74 : List (Nat × Instr) := [(0, .aload_n 0), (1, .getfield 20), (4, .iload_n 1), (5, .iaload), (6, .iconst 1), (7, .isub), (8, .istore_n 2), (9, .iload_n 2), (10, .ifCond .lt 152), (13, .iload_n 1), (14, .bipush 24), (16, .imul), (17, .iload_n 2), (18, .iadd), (19, .istore_n 3), (20, .aload_n 0), (21, .getfield 17), (24, .iload_n 3), (25, .iaload), (26, .istore 4), (28, .iload_n 2), (29, .iconst 1), (30, .iadd), (31, .istore 5), (33, .iload 4), (35, .invokestatic 82), (38, .ifCond .ne 10), (41, .iload 4), (43, .bipush 70), (45, .if_icmp .ne 7), (48, .iconst 2), (49, .goto 47), (52, .iload 4), (54, .bipush 63), (56, .if_icmp .ne 7), (59, .iconst 3), (60, .goto 36), (63, .iload 4), (65, .bipush 33), (67, .if_icmp .eq 24), (70, .iload 4), (72, .bipush 80), (74, .if_icmp .eq 17), (77, .iload 4), (79, .bipush 87), (81, .if_icmp .eq 10), (84, .iload 4), (86, .bipush 67), (88, .if_icmp .ne 7), (91, .iconst 1), (92, .goto 4), (95, .iconst 0), (96, .istore 6), (98, .iload 4), (100, .bipush 67), (102, .if_icmp .ne 6), (105, .iinc 5 1), (108, .iconst 0), (109, .istore 7), (111, .iload 7), (113, .iload 6), (115, .if_icmp .ge 23), (118, .aload_n 0), (119, .getfield 23), (122, .iload_n 1), (123, .bipush 24), (125, .imul), (126, .iload 5), (128, .iadd), (129, .iaload), (130, .istore 5), (132, .iinc 7 1), (135, .goto (-24)), (138, .iload 4), (140, .bipush 87), (142, .if_icmp .ne 6), (145, .iinc 5 1), (148, .aload_n 0), (149, .getfield 23), (152, .iload_n 3), (153, .iload 5), (155, .iastore), (156, .iinc 2 (-1)), (159, .goto (-150)), (162, .return_)]
def rv_74 : List (Nat × List Nat) := [(1, [5, 5, 0, 407]), (21, [5, 4, 0, 406]), (35, [0, 70, 1, 0, 463, 464, 58]), (119, [5, 6, 0, 408]), (149, [5, 6, 0, 408])]
-- 75: FlowEquationsModel.drop(I)I
def ins_75 : List (Nat × Instr) := [(0, .iload_n 1), (1, .ifCond .lt 18), (4, .iload_n 1), (5, .bipush 7), (7, .if_icmp .gt 12), (10, .aload_n 0), (11, .getfield 20), (14, .iload_n 1), (15, .iaload), (16, .ifCond .ne 5), (19, .iconst (-1)), (20, .ireturn), (21, .aload_n 0), (22, .getfield 20), (25, .iload_n 1), (26, .iconst 0), (27, .iastore), (28, .aload_n 0), (29, .iconst 0), (30, .putfield 103), (33, .iconst 0), (34, .ireturn)]
def rv_75 : List (Nat × List Nat) := [(11, [5, 5, 0, 407]), (22, [5, 5, 0, 407]), (30, [5, 15, 0, 417])]
-- 76: FlowEquationsModel.clock(II)I
def ins_76 : List (Nat × Instr) := [(0, .iload_n 1), (1, .ifCond .lt 20), (4, .iload_n 1), (5, .bipush 7), (7, .if_icmp .gt 14), (10, .iload_n 2), (11, .iconst (-1)), (12, .if_icmp .lt 9), (15, .iload_n 2), (16, .bipush 7), (18, .if_icmp .le 5), (21, .iconst (-1)), (22, .ireturn), (23, .aload_n 0), (24, .getfield 45), (27, .iload_n 1), (28, .iload_n 2), (29, .iastore), (30, .aload_n 0), (31, .iconst 0), (32, .putfield 103), (35, .iconst 0), (36, .ireturn)]
def rv_76 : List (Nat × List Nat) := [(24, [5, 13, 0, 415]), (32, [5, 15, 0, 417])]
-- 77: FlowEquationsModel.input(II)I
def ins_77 : List (Nat × Instr) := [(0, .iload_n 1), (1, .ifCond .lt 8), (4, .iload_n 1), (5, .iconst 3), (6, .if_icmp .le 5), (9, .iconst (-1)), (10, .ireturn), (11, .aload_n 0), (12, .getfield 48), (15, .iload_n 1), (16, .iload_n 2), (17, .iastore), (18, .iconst 0), (19, .ireturn)]
def rv_77 : List (Nat × List Nat) := [(12, [5, 14, 0, 416])]
-- 78: FlowEquationsModel.check()I
def ins_78 : List (Nat × Instr) := [(0, .aload_n 0), (1, .iconst 0), (2, .putfield 103), (5, .iconst 0), (6, .istore_n 1), (7, .iload_n 1), (8, .bipush 8), (10, .if_icmp .ge 22), (13, .aload_n 0), (14, .iload_n 1), (15, .invokevirtual 115), (18, .ifCond .eq 8), (21, .bipush (-100)), (23, .iload_n 1), (24, .isub), (25, .ireturn), (26, .iinc 1 1), (29, .goto (-22)), (32, .iconst 0), (33, .istore_n 1), (34, .iload_n 1), (35, .bipush 8), (37, .if_icmp .ge 32), (40, .aload_n 0), (41, .getfield 20), (44, .iload_n 1), (45, .iaload), (46, .ifCond .le 17), (49, .aload_n 0), (50, .iload_n 1), (51, .invokevirtual 118), (54, .ifCond .eq 9), (57, .sipush (-200)), (60, .iload_n 1), (61, .isub), (62, .ireturn), (63, .iinc 1 1), (66, .goto (-32)), (69, .iconst (-1)), (70, .istore_n 1), (71, .bipush 7), (73, .istore_n 2), (74, .iload_n 2), (75, .ifCond .lt 28), (78, .aload_n 0), (79, .getfield 20), (82, .iload_n 2), (83, .iaload), (84, .ifCond .le 13), (87, .aload_n 0), (88, .iload_n 2), (89, .invokevirtual 121), (92, .ifCond .ne 5), (95, .iload_n 2), (96, .istore_n 1), (97, .iinc 2 (-1)), (100, .goto (-26)), (103, .iload_n 1), (104, .ifCond .lt 9), (107, .sipush (-300)), (110, .iload_n 1), (111, .isub), (112, .ireturn), (113, .aload_n 0), (114, .invokevirtual 124), (117, .iconst 0), (118, .istore_n 2), (119, .iload_n 2), (120, .bipush 8), (122, .if_icmp .ge 32), (125, .aload_n 0), (126, .getfield 20), (129, .iload_n 2), (130, .iaload), (131, .ifCond .le 17), (134, .aload_n 0), (135, .iload_n 2), (136, .invokevirtual 127), (139, .ifCond .eq 9), (142, .sipush (-400)), (145, .iload_n 2), (146, .isub), (147, .ireturn), (148, .iinc 2 1), (151, .goto (-32)), (154, .aload_n 0), (155, .iconst 1), (156, .putfield 103), (159, .aload_n 0), (160, .iconst 0), (161, .putfield 130), (164, .iconst 0), (165, .istore_n 2), (166, .iconst 0), (167, .istore_n 3), (168, .iload_n 3), (169, .bipush 8), (171, .if_icmp .ge 37), (174, .aload_n 0), (175, .getfield 63), (178, .iload_n 3), (179, .iconst 0), (180, .iastore), (181, .aload_n 0), (182, .getfield 66), (185, .iload_n 3), (186, .iconst 1), (187, .iadd), (188, .iconst 0), (189, .iastore), (190, .aload_n 0), (191, .getfield 20), (194, .iload_n 3), (195, .iaload), (196, .ifCond .le 6), (199, .iinc 2 1), (202, .iinc 3 1), (205, .goto (-37)), (208, .aload_n 0), (209, .getfield 66), (212, .iconst 0), (213, .iconst 0), (214, .iastore), (215, .iconst 0), (216, .istore_n 3), (217, .iload_n 3), (218, .sipush 192), (221, .if_icmp .ge 16), (224, .aload_n 0), (225, .getfield 35), (228, .iload_n 3), (229, .iconst 0), (230, .iastore), (231, .iinc 3 1), (234, .goto (-17)), (237, .iload_n 2), (238, .ireturn)]
def rv_78 : List (Nat × List Nat) := [(2, [5, 15, 0, 417]), (15, [2, 79, 2, 5, 497, 498, 39, 58]), (41, [5, 5, 0, 407]), (51, [2, 80, 2, 5, 500, 501, 40, 58]), (79, [5, 5, 0, 407]), (89, [2, 81, 2, 5, 503, 504, 41, 58]), (114, [2, 84, 1, 5, 512, 513, 44, 58]), (126, [5, 5, 0, 407]), (136, [2, 85, 2, 5, 515, 516, 45, 58]), (156, [5, 15, 0, 417]), (161, [5, 16, 0, 418]), (175, [5, 21, 0, 423]), (182, [5, 22, 0, 424]), (191, [5, 5, 0, 407]), (209, [5, 22, 0, 424]), (225, [5, 10, 0, 412])]
-- 79: FlowEquationsModel.missing(I)Z
def ins_79 : List (Nat × Instr) := [(0, .aload_n 0), (1, .getfield 20), (4, .iload_n 1), (5, .iaload), (6, .ifCond .le 5), (9, .iconst 0), (10, .ireturn), (11, .iconst 0), (12, .istore_n 2), (13, .iload_n 2), (14, .bipush 8), (16, .if_icmp .ge 71), (19, .aload_n 0), (20, .getfield 20), (23, .iload_n 2), (24, .iaload), (25, .ifCond .ne 6), (28, .goto 53), (31, .aload_n 0), (32, .getfield 45), (35, .iload_n 2), (36, .iaload), (37, .iload_n 1), (38, .if_icmp .ne 5), (41, .iconst 1), (42, .ireturn), (43, .iconst 0), (44, .istore_n 3), (45, .iload_n 3), (46, .aload_n 0), (47, .getfield 20), (50, .iload_n 2), (51, .iaload), (52, .if_icmp .ge 29), (55, .aload_n 0), (56, .getfield 17), (59, .iload_n 2), (60, .bipush 24), (62, .imul), (63, .iload_n 3), (64, .iadd), (65, .iaload), (66, .bipush 97), (68, .iload_n 1), (69, .iadd), (70, .if_icmp .ne 5), (73, .iconst 1), (74, .ireturn), (75, .iinc 3 1), (78, .goto (-33)), (81, .iinc 2 1), (84, .goto (-71)), (87, .iconst 0), (88, .ireturn)]
def rv_79 : List (Nat × List Nat) := [(1, [5, 5, 0, 407]), (20, [5, 5, 0, 407]), (32, [5, 13, 0, 415]), (47, [5, 5, 0, 407]), (56, [5, 4, 0, 406])]
-- 80: FlowEquationsModel.circles(I)Z
def ins_80 : List (Nat × Instr) := [(0, .aload_n 0), (1, .getfield 45), (4, .iload_n 1), (5, .iaload), (6, .istore_n 2), (7, .iconst 0), (8, .istore_n 3), (9, .iload_n 3), (10, .bipush 8), (12, .if_icmp .ge 27), (15, .iload_n 2), (16, .ifCond .lt 23), (19, .iload_n 2), (20, .iload_n 1), (21, .if_icmp .ne 5), (24, .iconst 1), (25, .ireturn), (26, .aload_n 0), (27, .getfield 45), (30, .iload_n 2), (31, .iaload), (32, .istore_n 2), (33, .iinc 3 1), (36, .goto (-27)), (39, .iconst 0), (40, .ireturn)]
def rv_80 : List (Nat × List Nat) := [(1, [5, 13, 0, 415]), (27, [5, 13, 0, 415])]
-- 81: FlowEquationsModel.fit(I)Z
def ins_81 : List (Nat × Instr) := [(0, .iconst 1), (1, .istore_n 2), (2, .aload_n 0), (3, .getfield 26), (6, .iload_n 1), (7, .bipush 24), (9, .imul), (10, .aload_n 0), (11, .getfield 45), (14, .iload_n 1), (15, .iaload), (16, .iastore), (17, .aload_n 0), (18, .getfield 29), (21, .iload_n 1), (22, .bipush 24), (24, .imul), (25, .iconst 0), (26, .iastore), (27, .iconst 0), (28, .istore_n 3), (29, .iload_n 3), (30, .aload_n 0), (31, .getfield 20), (34, .iload_n 1), (35, .iaload), (36, .if_icmp .ge 345), (39, .iload_n 1), (40, .bipush 24), (42, .imul), (43, .iload_n 3), (44, .iadd), (45, .istore 4), (47, .aload_n 0), (48, .getfield 17), (51, .iload 4), (53, .iaload), (54, .istore 5), (56, .aload_n 0), (57, .getfield 26), (60, .iload 4), (62, .iaload), (63, .istore 6), (65, .aload_n 0), (66, .getfield 38), (69, .iload 4), (71, .baload), (72, .ifCond .ne 6), (75, .goto 300), (78, .iload 5), (80, .invokestatic 76), (83, .ifCond .eq 18), (86, .aload_n 0), (87, .getfield 45), (90, .iload 5), (92, .bipush 97), (94, .isub), (95, .iaload), (96, .iload 6), (98, .if_icmp .ne 17), (101, .iload 5), (103, .invokestatic 79), (106, .ifCond .eq 11), (109, .iload 6), (111, .iconst (-1)), (112, .if_icmp .eq 5), (115, .iconst 0), (116, .istore_n 2), (117, .iload 5), (119, .invokestatic 82), (122, .ifCond .ne 10), (125, .iload 5), (127, .bipush 70), (129, .if_icmp .ne 7), (132, .iconst 2), (133, .goto 47), (136, .iload 5), (138, .bipush 63), (140, .if_icmp .ne 7), (143, .iconst 3), (144, .goto 36), (147, .iload 5), (149, .bipush 33), (151, .if_icmp .eq 24), (154, .iload 5), (156, .bipush 80), (158, .if_icmp .eq 17), (161, .iload 5), (163, .bipush 87), (165, .if_icmp .eq 10), (168, .iload 5), (170, .bipush 67), (172, .if_icmp .ne 7), (175, .iconst 1), (176, .goto 4), (179, .iconst 0), (180, .istore 7), (182, .iload 6), (184, .istore 8), (186, .iload 5), (188, .bipush 87), (190, .if_icmp .ne 29), (193, .iload 6), (195, .aload_n 0), (196, .iload_n 1), (197, .iload_n 3), (198, .invokevirtual 107), (201, .if_icmp .eq 5), (204, .iconst 0), (205, .istore_n 2), (206, .aload_n 0), (207, .getfield 45), (210, .aload_n 0), (211, .iload_n 1), (212, .iload_n 3), (213, .invokevirtual 107), (216, .iaload), (217, .istore 8), (219, .iload 5), (221, .bipush 67), (223, .if_icmp .ne 29), (226, .iload 6), (228, .aload_n 0), (229, .getfield 45), (232, .aload_n 0), (233, .iload_n 1), (234, .iload_n 3), (235, .invokevirtual 107), (238, .iaload), (239, .if_icmp .eq 5), (242, .iconst 0), (243, .istore_n 2), (244, .aload_n 0), (245, .iload_n 1), (246, .iload_n 3), (247, .invokevirtual 107), (250, .istore 8), (252, .iconst 0), (253, .istore 9), (255, .iload 9), (257, .iload 7), (259, .if_icmp .ge 60), (262, .iload_n 1), (263, .bipush 24), (265, .imul), (266, .aload_n 0), (267, .iload_n 1), (268, .iload_n 3), (269, .iload 9), (271, .invokevirtual 111), (274, .iadd), (275, .istore 10), (277, .aload_n 0), (278, .getfield 26), (281, .iload 10), (283, .iload 8), (285, .iastore), (286, .aload_n 0), (287, .getfield 29), (290, .iload 10), (292, .aload_n 0), (293, .getfield 29), (296, .iload 4), (298, .iaload), (299, .iload 5), (301, .bipush 80), (303, .if_icmp .ne 7), (306, .iconst 1), (307, .goto 4), (310, .iconst 0), (311, .iadd), (312, .iastore), (313, .iinc 9 1), (316, .goto (-61)), (319, .iload 5), (321, .bipush 87), (323, .if_icmp .ne 29), (326, .aload_n 0), (327, .getfield 29), (330, .iload_n 1), (331, .bipush 24), (333, .imul), (334, .aload_n 0), (335, .getfield 23), (338, .iload 4), (340, .iaload), (341, .iadd), (342, .iconst 1), (343, .isub), (344, .aload_n 0), (345, .getfield 29), (348, .iload 4), (350, .iaload), (351, .iastore), (352, .iload 5), (354, .bipush 67), (356, .if_icmp .ne 19), (359, .aload_n 0), (360, .getfield 29), (363, .iload 4), (365, .iconst 1), (366, .iadd), (367, .aload_n 0), (368, .getfield 29), (371, .iload 4), (373, .iaload), (374, .iastore), (375, .iinc 3 1), (378, .goto (-349)), (381, .iload_n 2), (382, .ireturn)]
def rv_81 : List (Nat × List Nat) := [(3, [5, 7, 0, 409]), (11, [5, 13, 0, 415]), (18, [5, 8, 0, 410]), (31, [5, 5, 0, 407]), (48, [5, 4, 0, 406]), (57, [5, 7, 0, 409]), (66, [5, 11, 0, 413]), (80, [0, 68, 1, 0, 457, 458, 58]), (87, [5, 13, 0, 415]), (103, [0, 69, 1, 0, 460, 461, 58]), (119, [0, 70, 1, 0, 463, 464, 58]), (198, [2, 82, 3, 5, 506, 507, 42, 58]), (207, [5, 13, 0, 415]), (213, [2, 82, 3, 5, 506, 507, 42, 58]), (229, [5, 13, 0, 415]), (235, [2, 82, 3, 5, 506, 507, 42, 58]), (247, [2, 82, 3, 5, 506, 507, 42, 58]), (271, [2, 83, 4, 5, 509, 510, 43, 58]), (278, [5, 7, 0, 409]), (287, [5, 8, 0, 410]), (293, [5, 8, 0, 410]), (327, [5, 8, 0, 410]), (335, [5, 6, 0, 408]), (345, [5, 8, 0, 410]), (360, [5, 8, 0, 410]), (368, [5, 8, 0, 410])]
-- 82: FlowEquationsModel.about(II)I
def ins_82 : List (Nat × Instr) := [(0, .aload_n 0), (1, .getfield 17), (4, .iload_n 1), (5, .bipush 24), (7, .imul), (8, .iload_n 2), (9, .iadd), (10, .iaload), (11, .bipush 87), (13, .if_icmp .ne 19), (16, .aload_n 0), (17, .getfield 23), (20, .iload_n 1), (21, .bipush 24), (23, .imul), (24, .iload_n 2), (25, .iadd), (26, .iaload), (27, .iconst 1), (28, .isub), (29, .goto 6), (32, .iload_n 2), (33, .iconst 1), (34, .iadd), (35, .istore_n 3), (36, .aload_n 0), (37, .getfield 17), (40, .iload_n 1), (41, .bipush 24), (43, .imul), (44, .iload_n 3), (45, .iadd), (46, .iaload), (47, .bipush 97), (49, .isub), (50, .ireturn)]
def rv_82 : List (Nat × List Nat) := [(1, [5, 4, 0, 406]), (17, [5, 6, 0, 408]), (37, [5, 4, 0, 406])]
-- 83: FlowEquationsModel.child(III)I
def ins_83 : List (Nat × Instr) := [(0, .aload_n 0), (1, .getfield 17), (4, .iload_n 1), (5, .bipush 24), (7, .imul), (8, .iload_n 2), (9, .iadd), (10, .iaload), (11, .bipush 67), (13, .if_icmp .ne 9), (16, .iload_n 2), (17, .iconst 2), (18, .iadd), (19, .goto 6), (22, .iload_n 2), (23, .iconst 1), (24, .iadd), (25, .istore 4), (27, .iconst 0), (28, .istore 5), (30, .iload 5), (32, .iload_n 3), (33, .if_icmp .ge 23), (36, .aload_n 0), (37, .getfield 23), (40, .iload_n 1), (41, .bipush 24), (43, .imul), (44, .iload 4), (46, .iadd), (47, .iaload), (48, .istore 4), (50, .iinc 5 1), (53, .goto (-23)), (56, .iload 4), (58, .ireturn)]
def rv_83 : List (Nat × List Nat) := [(1, [5, 4, 0, 406]), (37, [5, 6, 0, 408])]
-- 84: FlowEquationsModel.findNeeds()V
def ins_84 : List (Nat × Instr) := [(0, .iconst 0), (1, .istore_n 1), (2, .iload_n 1), (3, .bipush 8), (5, .if_icmp .ge 124), (8, .iconst 0), (9, .istore_n 2), (10, .iload_n 2), (11, .bipush 8), (13, .if_icmp .ge 44), (16, .aload_n 0), (17, .getfield 57), (20, .iload_n 1), (21, .bipush 8), (23, .imul), (24, .iload_n 2), (25, .iadd), (26, .aload_n 0), (27, .getfield 20), (30, .iload_n 1), (31, .iaload), (32, .ifCond .le 17), (35, .aload_n 0), (36, .getfield 45), (39, .iload_n 1), (40, .iaload), (41, .iload_n 2), (42, .if_icmp .ne 7), (45, .iconst 1), (46, .goto 4), (49, .iconst 0), (50, .bastore), (51, .iinc 2 1), (54, .goto (-44)), (57, .iconst 0), (58, .istore_n 2), (59, .iload_n 2), (60, .aload_n 0), (61, .getfield 20), (64, .iload_n 1), (65, .iaload), (66, .if_icmp .ge 57), (69, .aload_n 0), (70, .getfield 17), (73, .iload_n 1), (74, .bipush 24), (76, .imul), (77, .iload_n 2), (78, .iadd), (79, .iaload), (80, .istore_n 3), (81, .iload_n 3), (82, .invokestatic 76), (85, .ifCond .eq 32), (88, .aload_n 0), (89, .getfield 29), (92, .iload_n 1), (93, .bipush 24), (95, .imul), (96, .iload_n 2), (97, .iadd), (98, .iaload), (99, .ifCond .ne 18), (102, .aload_n 0), (103, .getfield 57), (106, .iload_n 1), (107, .bipush 8), (109, .imul), (110, .iload_n 3), (111, .iadd), (112, .bipush 97), (114, .isub), (115, .iconst 1), (116, .bastore), (117, .iinc 2 1), (120, .goto (-61)), (123, .iinc 1 1), (126, .goto (-124)), (129, .return_)]
def rv_84 : List (Nat × List Nat) := [(17, [5, 19, 0, 421]), (27, [5, 5, 0, 407]), (36, [5, 13, 0, 415]), (61, [5, 5, 0, 407]), (70, [5, 4, 0, 406]), (82, [0, 68, 1, 0, 457, 458, 58]), (89, [5, 8, 0, 410]), (103, [5, 19, 0, 421])]
-- 85: FlowEquationsModel.needsItself(I)Z
def ins_85 : List (Nat × Instr) := [(0, .iconst 0), (1, .istore_n 2), (2, .iconst 0), (3, .istore_n 3), (4, .iload_n 3), (5, .bipush 8), (7, .if_icmp .ge 29), (10, .aload_n 0), (11, .getfield 57), (14, .iload_n 1), (15, .bipush 8), (17, .imul), (18, .iload_n 3), (19, .iadd), (20, .baload), (21, .ifCond .eq 9), (24, .iload_n 2), (25, .iconst 1), (26, .iload_n 3), (27, .ishl), (28, .ior), (29, .istore_n 2), (30, .iinc 3 1), (33, .goto (-29)), (36, .iconst 0), (37, .istore_n 3), (38, .iload_n 3), (39, .bipush 8), (41, .if_icmp .ge 57), (44, .iconst 0), (45, .istore 4), (47, .iload 4), (49, .bipush 64), (51, .if_icmp .ge 41), (54, .aload_n 0), (55, .getfield 57), (58, .iload 4), (60, .baload), (61, .ifCond .eq 25), (64, .iload_n 2), (65, .iload 4), (67, .bipush 8), (69, .idiv), (70, .ishr), (71, .iconst 1), (72, .iand), (73, .ifCond .eq 13), (76, .iload_n 2), (77, .iconst 1), (78, .iload 4), (80, .bipush 8), (82, .irem), (83, .ishl), (84, .ior), (85, .istore_n 2), (86, .iinc 4 1), (89, .goto (-42)), (92, .iinc 3 1), (95, .goto (-57)), (98, .iload_n 2), (99, .iload_n 1), (100, .ishr), (101, .iconst 1), (102, .iand), (103, .ifCond .eq 7), (106, .iconst 1), (107, .goto 4), (110, .iconst 0), (111, .ireturn)]
def rv_85 : List (Nat × List Nat) := [(11, [5, 19, 0, 421]), (55, [5, 19, 0, 421])]
-- 86: FlowEquationsModel.step(I)I
def ins_86 : List (Nat × Instr) := [(0, .iload_n 1), (1, .iconst 1), (2, .if_icmp .lt 9), (5, .iload_n 1), (6, .bipush 20), (8, .if_icmp .le 5), (11, .iconst (-1)), (12, .ireturn), (13, .aload_n 0), (14, .getfield 103), (17, .ifCond .ne 6), (20, .bipush (-4)), (22, .ireturn), (23, .iconst 0), (24, .istore_n 2), (25, .iload_n 2), (26, .iload_n 1), (27, .if_icmp .ge 13), (30, .aload_n 0), (31, .invokevirtual 145), (34, .iinc 2 1), (37, .goto (-12)), (40, .aload_n 0), (41, .getfield 130), (44, .ireturn)]
def rv_86 : List (Nat × List Nat) := [(14, [5, 15, 0, 417]), (31, [2, 87, 1, 5, 522, 523, 46, 58]), (41, [5, 16, 0, 418])]
-- 87: FlowEquationsModel.instant()V
def ins_87 : List (Nat × Instr) := [(0, .iconst 0), (1, .istore_n 1), (2, .iload_n 1), (3, .bipush 8), (5, .if_icmp .ge 23), (8, .aload_n 0), (9, .getfield 51), (12, .iload_n 1), (13, .aload_n 0), (14, .getfield 54), (17, .iload_n 1), (18, .iconst 0), (19, .dup_x2), (20, .bastore), (21, .bastore), (22, .iinc 1 1), (25, .goto (-23)), (28, .iconst 0), (29, .istore_n 1), (30, .iload_n 1), (31, .bipush 8), (33, .if_icmp .ge 94), (36, .iconst 0), (37, .istore_n 2), (38, .iload_n 2), (39, .bipush 8), (41, .if_icmp .ge 80), (44, .aload_n 0), (45, .iload_n 2), (46, .invokevirtual 139), (49, .ifCond .ne 6), (52, .goto 63), (55, .aload_n 0), (56, .getfield 54), (59, .iload_n 2), (60, .iconst 1), (61, .bastore), (62, .aload_n 0), (63, .aload_n 0), (64, .getfield 45), (67, .iload_n 2), (68, .iaload), (69, .invokevirtual 133), (72, .ifCond .ne 6), (75, .goto 40), (78, .aload_n 0), (79, .iload_n 2), (80, .invokevirtual 142), (83, .aload_n 0), (84, .getfield 51), (87, .iload_n 2), (88, .iconst 1), (89, .bastore), (90, .aload_n 0), (91, .getfield 60), (94, .iload_n 2), (95, .aload_n 0), (96, .getfield 32), (99, .iload_n 2), (100, .bipush 24), (102, .imul), (103, .iaload), (104, .iastore), (105, .aload_n 0), (106, .getfield 63), (109, .iload_n 2), (110, .dup2), (111, .iaload), (112, .iconst 1), (113, .iadd), (114, .iastore), (115, .iinc 2 1), (118, .goto (-80)), (121, .iinc 1 1), (124, .goto (-94)), (127, .iconst 0), (128, .istore_n 1), (129, .iload_n 1), (130, .bipush 8), (132, .if_icmp .ge 114), (135, .aload_n 0), (136, .iload_n 1), (137, .invokevirtual 142), (140, .iconst 0), (141, .istore_n 2), (142, .iload_n 2), (143, .aload_n 0), (144, .getfield 20), (147, .iload_n 1), (148, .iaload), (149, .if_icmp .ge 91), (152, .iload_n 1), (153, .bipush 24), (155, .imul), (156, .iload_n 2), (157, .iadd), (158, .istore_n 3), (159, .aload_n 0), (160, .getfield 38), (163, .iload_n 3), (164, .baload), (165, .ifCond .eq 69), (168, .aload_n 0), (169, .getfield 17), (172, .iload_n 3), (173, .iaload), (174, .bipush 80), (176, .if_icmp .eq 17), (179, .aload_n 0), (180, .getfield 17), (183, .iload_n 3), (184, .iaload), (185, .bipush 67), (187, .if_icmp .eq 6), (190, .goto 44), (193, .iload_n 1), (194, .bipush 24), (196, .imul), (197, .aload_n 0), (198, .iload_n 1), (199, .iload_n 2), (200, .iconst 0), (201, .invokevirtual 111), (204, .iadd), (205, .istore 4), (207, .aload_n 0), (208, .aload_n 0), (209, .getfield 26), (212, .iload 4), (214, .iaload), (215, .invokevirtual 133), (218, .ifCond .eq 16), (221, .aload_n 0), (222, .getfield 35), (225, .iload_n 3), (226, .aload_n 0), (227, .getfield 32), (230, .iload 4), (232, .iaload), (233, .iastore), (234, .iinc 2 1), (237, .goto (-95)), (240, .iinc 1 1), (243, .goto (-114)), (246, .iconst (-1)), (247, .istore_n 1), (248, .iload_n 1), (249, .bipush 8), (251, .if_icmp .ge 29), (254, .aload_n 0), (255, .iload_n 1), (256, .invokevirtual 133), (259, .ifCond .eq 15), (262, .aload_n 0), (263, .getfield 66), (266, .iload_n 1), (267, .iconst 1), (268, .iadd), (269, .dup2), (270, .iaload), (271, .iconst 1), (272, .iadd), (273, .iastore), (274, .iinc 1 1), (277, .goto (-29)), (280, .aload_n 0), (281, .dup), (282, .getfield 130), (285, .iconst 1), (286, .iadd), (287, .putfield 130), (290, .return_)]
def rv_87 : List (Nat × List Nat) := [(9, [5, 17, 0, 419]), (14, [5, 18, 0, 420]), (46, [2, 88, 2, 5, 525, 526, 47, 58]), (56, [5, 18, 0, 420]), (64, [5, 13, 0, 415]), (69, [2, 89, 2, 5, 528, 529, 48, 58]), (80, [2, 90, 2, 5, 531, 532, 49, 58]), (84, [5, 17, 0, 419]), (91, [5, 20, 0, 422]), (96, [5, 9, 0, 411]), (106, [5, 21, 0, 423]), (137, [2, 90, 2, 5, 531, 532, 49, 58]), (144, [5, 5, 0, 407]), (160, [5, 11, 0, 413]), (169, [5, 4, 0, 406]), (180, [5, 4, 0, 406]), (201, [2, 83, 4, 5, 509, 510, 43, 58]), (209, [5, 7, 0, 409]), (215, [2, 89, 2, 5, 528, 529, 48, 58]), (222, [5, 10, 0, 412]), (227, [5, 9, 0, 411]), (256, [2, 89, 2, 5, 528, 529, 48, 58]), (263, [5, 22, 0, 424]), (282, [5, 16, 0, 418]), (287, [5, 16, 0, 418])]
-- 88: FlowEquationsModel.canWork(I)Z
def ins_88 : List (Nat × Instr) := [(0, .aload_n 0), (1, .getfield 20), (4, .iload_n 1), (5, .iaload), (6, .ifCond .eq 12), (9, .aload_n 0), (10, .getfield 54), (13, .iload_n 1), (14, .baload), (15, .ifCond .eq 5), (18, .iconst 0), (19, .ireturn), (20, .iconst 0), (21, .istore_n 2), (22, .iload_n 2), (23, .bipush 8), (25, .if_icmp .ge 34), (28, .aload_n 0), (29, .getfield 57), (32, .iload_n 1), (33, .bipush 8), (35, .imul), (36, .iload_n 2), (37, .iadd), (38, .baload), (39, .ifCond .eq 14), (42, .aload_n 0), (43, .getfield 54), (46, .iload_n 2), (47, .baload), (48, .ifCond .ne 5), (51, .iconst 0), (52, .ireturn), (53, .iinc 2 1), (56, .goto (-34)), (59, .iconst 1), (60, .ireturn)]
def rv_88 : List (Nat × List Nat) := [(1, [5, 5, 0, 407]), (10, [5, 18, 0, 420]), (29, [5, 19, 0, 421]), (43, [5, 18, 0, 420])]
-- 89: FlowEquationsModel.active(I)Z
def ins_89 : List (Nat × Instr) := [(0, .iload_n 1), (1, .ifCond .lt 21), (4, .aload_n 0), (5, .getfield 51), (8, .iload_n 1), (9, .baload), (10, .ifCond .eq 16), (13, .aload_n 0), (14, .getfield 60), (17, .iload_n 1), (18, .iaload), (19, .ifCond .eq 7), (22, .iconst 1), (23, .goto 4), (26, .iconst 0), (27, .ireturn)]
def rv_89 : List (Nat × List Nat) := [(5, [5, 17, 0, 419]), (14, [5, 20, 0, 422])]
-- 90: FlowEquationsModel.workAll(I)V
def ins_90 : List (Nat × Instr) := [(0, .aload_n 0), (1, .getfield 20), (4, .iload_n 1), (5, .iaload), (6, .iconst 1), (7, .isub), (8, .istore_n 2), (9, .iload_n 2), (10, .ifCond .lt 40), (13, .aload_n 0), (14, .getfield 38), (17, .iload_n 1), (18, .bipush 24), (20, .imul), (21, .iload_n 2), (22, .iadd), (23, .baload), (24, .ifCond .eq 20), (27, .aload_n 0), (28, .getfield 32), (31, .iload_n 1), (32, .bipush 24), (34, .imul), (35, .iload_n 2), (36, .iadd), (37, .aload_n 0), (38, .iload_n 1), (39, .iload_n 2), (40, .invokevirtual 136), (43, .iastore), (44, .iinc 2 (-1)), (47, .goto (-38)), (50, .return_)]
def rv_90 : List (Nat × List Nat) := [(1, [5, 5, 0, 407]), (14, [5, 11, 0, 413]), (28, [5, 9, 0, 411]), (40, [2, 91, 3, 5, 534, 535, 50, 58])]
-- 91: FlowEquationsModel.work(II)I
def ins_91 : List (Nat × Instr) := [(0, .iload_n 1), (1, .bipush 24), (3, .imul), (4, .iload_n 2), (5, .iadd), (6, .istore_n 3), (7, .aload_n 0), (8, .getfield 17), (11, .iload_n 3), (12, .iaload), (13, .istore 4), (15, .iload 4), (17, .invokestatic 72), (20, .ifCond .eq 9), (23, .iload 4), (25, .bipush 48), (27, .isub), (28, .ireturn), (29, .iload 4), (31, .invokestatic 76), (34, .ifCond .eq 14), (37, .aload_n 0), (38, .getfield 60), (41, .iload 4), (43, .bipush 97), (45, .isub), (46, .iaload), (47, .ireturn), (48, .iload 4), (50, .invokestatic 79), (53, .ifCond .eq 14), (56, .aload_n 0), (57, .getfield 48), (60, .iload 4), (62, .bipush 112), (64, .isub), (65, .iaload), (66, .ireturn), (67, .aload_n 0), (68, .getfield 32), (71, .iload_n 1), (72, .bipush 24), (74, .imul), (75, .aload_n 0), (76, .iload_n 1), (77, .iload_n 2), (78, .iconst 0), (79, .invokevirtual 111), (82, .iadd), (83, .iaload), (84, .istore 5), (86, .iload 4), (88, .bipush 33), (90, .if_icmp .ne 14), (93, .iload 5), (95, .ifCond .ne 7), (98, .iconst 1), (99, .goto 4), (102, .iconst 0), (103, .ireturn), (104, .iload 4), (106, .bipush 80), (108, .if_icmp .ne 10), (111, .aload_n 0), (112, .getfield 35), (115, .iload_n 3), (116, .iaload), (117, .ireturn), (118, .iload 4), (120, .bipush 87), (122, .if_icmp .ne 6), (125, .iload 5), (127, .ireturn), (128, .iload 4), (130, .bipush 67), (132, .if_icmp .ne 28), (135, .aload_n 0), (136, .aload_n 0), (137, .iload_n 1), (138, .iload_n 2), (139, .invokevirtual 107), (142, .invokevirtual 133), (145, .ifCond .eq 8), (148, .iload 5), (150, .goto 9), (153, .aload_n 0), (154, .getfield 35), (157, .iload_n 3), (158, .iaload), (159, .ireturn), (160, .aload_n 0), (161, .getfield 32), (164, .iload_n 1), (165, .bipush 24), (167, .imul), (168, .aload_n 0), (169, .iload_n 1), (170, .iload_n 2), (171, .iconst 1), (172, .invokevirtual 111), (175, .iadd), (176, .iaload), (177, .istore 6), (179, .iload 4), (181, .bipush 43), (183, .if_icmp .ne 9), (186, .iload 5), (188, .iload 6), (190, .iadd), (191, .ireturn), (192, .iload 4), (194, .bipush 45), (196, .if_icmp .ne 9), (199, .iload 5), (201, .iload 6), (203, .isub), (204, .ireturn), (205, .iload 4), (207, .bipush 42), (209, .if_icmp .ne 9), (212, .iload 5), (214, .iload 6), (216, .imul), (217, .ireturn), (218, .iload 4), (220, .bipush 60), (222, .if_icmp .ne 16), (225, .iload 5), (227, .iload 6), (229, .if_icmp .ge 7), (232, .iconst 1), (233, .goto 4), (236, .iconst 0), (237, .ireturn), (238, .iload 4), (240, .bipush 61), (242, .if_icmp .ne 16), (245, .iload 5), (247, .iload 6), (249, .if_icmp .ne 7), (252, .iconst 1), (253, .goto 4), (256, .iconst 0), (257, .ireturn), (258, .iload 4), (260, .bipush 38), (262, .if_icmp .ne 19), (265, .iload 5), (267, .ifCond .eq 12), (270, .iload 6), (272, .ifCond .eq 7), (275, .iconst 1), (276, .goto 4), (279, .iconst 0), (280, .ireturn), (281, .iload 4), (283, .bipush 70), (285, .if_icmp .ne 27), (288, .aload_n 0), (289, .getfield 66), (292, .aload_n 0), (293, .getfield 26), (296, .iload_n 3), (297, .iaload), (298, .iconst 1), (299, .iadd), (300, .iaload), (301, .ifCond .ne 8), (304, .iload 5), (306, .goto 5), (309, .iload 6), (311, .ireturn), (312, .iload 5), (314, .ifCond .eq 8), (317, .iload 6), (319, .goto 20), (322, .aload_n 0), (323, .getfield 32), (326, .iload_n 1), (327, .bipush 24), (329, .imul), (330, .aload_n 0), (331, .iload_n 1), (332, .iload_n 2), (333, .iconst 2), (334, .invokevirtual 111), (337, .iadd), (338, .iaload), (339, .ireturn)]
def rv_91 : List (Nat × List Nat) := [(8, [5, 4, 0, 406]), (17, [0, 67, 1, 0, 454, 455, 58]), (31, [0, 68, 1, 0, 457, 458, 58]), (38, [5, 20, 0, 422]), (50, [0, 69, 1, 0, 460, 461, 58]), (57, [5, 14, 0, 416]), (68, [5, 9, 0, 411]), (79, [2, 83, 4, 5, 509, 510, 43, 58]), (112, [5, 10, 0, 412]), (139, [2, 82, 3, 5, 506, 507, 42, 58]), (142, [2, 89, 2, 5, 528, 529, 48, 58]), (154, [5, 10, 0, 412]), (161, [5, 9, 0, 411]), (172, [2, 83, 4, 5, 509, 510, 43, 58]), (289, [5, 22, 0, 424]), (293, [5, 7, 0, 409]), (323, [5, 9, 0, 411]), (334, [2, 83, 4, 5, 509, 510, 43, 58])]
-- 92: FlowEquationsModel.value(I)J
def ins_92 : List (Nat × Instr) := [(0, .aload_n 0), (1, .iload_n 1), (2, .invokevirtual 148), (5, .ifCond .eq 13), (8, .aload_n 0), (9, .getfield 60), (12, .iload_n 1), (13, .iaload), (14, .i2l), (15, .goto 6), (18, .ldc2_w 151), (21, .lreturn)]
def rv_92 : List (Nat × List Nat) := [(2, [2, 93, 2, 5, 541, 542, 51, 58]), (9, [5, 20, 0, 422]), (18, [544])]
-- 93: FlowEquationsModel.seen(I)Z
def ins_93 : List (Nat × Instr) := [(0, .iload_n 1), (1, .ifCond .lt 45), (4, .iload_n 1), (5, .bipush 8), (7, .if_icmp .ge 39), (10, .aload_n 0), (11, .getfield 103), (14, .ifCond .eq 32), (17, .aload_n 0), (18, .getfield 130), (21, .ifCond .le 25), (24, .aload_n 0), (25, .getfield 20), (28, .iload_n 1), (29, .iaload), (30, .ifCond .le 16), (33, .aload_n 0), (34, .getfield 51), (37, .iload_n 1), (38, .baload), (39, .ifCond .eq 7), (42, .iconst 1), (43, .goto 4), (46, .iconst 0), (47, .ireturn)]
def rv_93 : List (Nat × List Nat) := [(11, [5, 15, 0, 417]), (18, [5, 16, 0, 418]), (25, [5, 5, 0, 407]), (34, [5, 17, 0, 419])]
-- 94: FlowEquationsModel.present(I)I
def ins_94 : List (Nat × Instr) := [(0, .iload_n 1), (1, .ifCond .lt 9), (4, .iload_n 1), (5, .bipush 7), (7, .if_icmp .le 5), (10, .iconst (-1)), (11, .ireturn), (12, .aload_n 0), (13, .getfield 103), (16, .ifCond .eq 21), (19, .aload_n 0), (20, .getfield 20), (23, .iload_n 1), (24, .iaload), (25, .ifCond .le 12), (28, .aload_n 0), (29, .getfield 63), (32, .iload_n 1), (33, .iaload), (34, .goto 4), (37, .iconst 0), (38, .ireturn)]
def rv_94 : List (Nat × List Nat) := [(13, [5, 15, 0, 417]), (20, [5, 5, 0, 407]), (29, [5, 21, 0, 423])]
-- 95: FlowEquationsModel.memory(II)J
def ins_95 : List (Nat × Instr) := [(0, .iload_n 1), (1, .ifCond .lt 30), (4, .iload_n 1), (5, .bipush 7), (7, .if_icmp .gt 24), (10, .iload_n 2), (11, .ifCond .lt 20), (14, .iload_n 2), (15, .aload_n 0), (16, .getfield 20), (19, .iload_n 1), (20, .iaload), (21, .if_icmp .ge 10), (24, .aload_n 0), (25, .getfield 103), (28, .ifCond .ne 7), (31, .ldc2_w 151), (34, .lreturn), (35, .aload_n 0), (36, .getfield 17), (39, .iload_n 1), (40, .bipush 24), (42, .imul), (43, .iload_n 2), (44, .iadd), (45, .iaload), (46, .istore_n 3), (47, .iload_n 3), (48, .bipush 80), (50, .if_icmp .eq 9), (53, .iload_n 3), (54, .bipush 67), (56, .if_icmp .ne 18), (59, .aload_n 0), (60, .getfield 35), (63, .iload_n 1), (64, .bipush 24), (66, .imul), (67, .iload_n 2), (68, .iadd), (69, .iaload), (70, .i2l), (71, .goto 6), (74, .ldc2_w 151), (77, .lreturn)]
def rv_95 : List (Nat × List Nat) := [(16, [5, 5, 0, 407]), (25, [5, 15, 0, 417]), (31, [544]), (36, [5, 4, 0, 406]), (60, [5, 10, 0, 412]), (74, [544])]
-- 96: FlowEquationsModel.info(I)I
def ins_96 : List (Nat × Instr) := [(0, .iload_n 1), (1, .ifCond .lt 9), (4, .iload_n 1), (5, .bipush 6), (7, .if_icmp .le 5), (10, .iconst (-1)), (11, .ireturn), (12, .iload_n 1), (13, .iconst 2), (14, .if_icmp .ge 19), (17, .iload_n 1), (18, .ifCond .ne 10), (21, .aload_n 0), (22, .getfield 85), (25, .goto 7), (28, .aload_n 0), (29, .getfield 13), (32, .ireturn), (33, .iload_n 1), (34, .iconst 3), (35, .if_icmp .ne 16), (38, .aload_n 0), (39, .getfield 103), (42, .ifCond .eq 7), (45, .iconst 1), (46, .goto 4), (49, .iconst 0), (50, .ireturn), (51, .iload_n 1), (52, .iconst 4), (53, .if_icmp .ne 19), (56, .aload_n 0), (57, .getfield 103), (60, .ifCond .eq 10), (63, .aload_n 0), (64, .getfield 130), (67, .goto 4), (70, .iconst 0), (71, .ireturn), (72, .iconst 0), (73, .istore_n 2), (74, .iconst 0), (75, .istore_n 3), (76, .iload_n 3), (77, .bipush 8), (79, .if_icmp .ge 54), (82, .iload_n 1), (83, .iconst 2), (84, .if_icmp .ne 12), (87, .aload_n 0), (88, .getfield 20), (91, .iload_n 3), (92, .iaload), (93, .ifCond .gt 17), (96, .iload_n 1), (97, .bipush 6), (99, .if_icmp .ne 14), (102, .aload_n 0), (103, .iload_n 3), (104, .invokevirtual 148), (107, .ifCond .eq 6), (110, .iinc 2 1), (113, .iload_n 1), (114, .iconst 5), (115, .if_icmp .ne 12), (118, .iload_n 2), (119, .aload_n 0), (120, .getfield 20), (123, .iload_n 3), (124, .iaload), (125, .iadd), (126, .istore_n 2), (127, .iinc 3 1), (130, .goto (-54)), (133, .iload_n 2), (134, .ireturn)]
def rv_96 : List (Nat × List Nat) := [(22, [5, 1, 0, 403]), (29, [5, 2, 0, 404]), (39, [5, 15, 0, 417]), (57, [5, 15, 0, 417]), (64, [5, 16, 0, 418]), (88, [5, 5, 0, 407]), (104, [2, 93, 2, 5, 541, 542, 51, 58]), (120, [5, 5, 0, 407])]
-- 97: FlowEquationsLaw.law([I)Z
def ins_97 : List (Nat × Instr) := [(0, .new 7), (3, .dup), (4, .invokespecial 9), (7, .astore_n 1), (8, .new 10), (11, .dup), (12, .invokespecial 12), (15, .astore_n 2), (16, .iconst 0), (17, .istore_n 3), (18, .iload_n 3), (19, .aload_n 0), (20, .arraylength), (21, .iconst 3), (22, .isub), (23, .if_icmp .gt 407), (26, .aload_n 0), (27, .iload_n 3), (28, .iaload), (29, .bipush 15), (31, .iand), (32, .tableswitch 392 0 11 #[64, 87, 140, 163, 186, 219, 252, 265, 288, 312, 335, 369]), (96, .aload_n 1), (97, .aload_n 0), (98, .iload_n 3), (99, .iconst 1), (100, .iadd), (101, .iaload), (102, .invokevirtual 13), (105, .aload_n 2), (106, .aload_n 0), (107, .iload_n 3), (108, .iconst 1), (109, .iadd), (110, .iaload), (111, .invokevirtual 17), (114, .if_icmp .eq 310), (117, .iconst 0), (118, .ireturn), (119, .aload_n 1), (120, .aload_n 0), (121, .iload_n 3), (122, .iconst 1), (123, .iadd), (124, .iaload), (125, .i2l), (126, .bipush 32), (128, .lshl), (129, .aload_n 0), (130, .iload_n 3), (131, .iconst 2), (132, .iadd), (133, .iaload), (134, .i2l), (135, .ldc2_w 18), (138, .land), (139, .lor), (140, .invokevirtual 20), (143, .aload_n 2), (144, .aload_n 0), (145, .iload_n 3), (146, .iconst 1), (147, .iadd), (148, .iaload), (149, .i2l), (150, .bipush 32), (152, .lshl), (153, .aload_n 0), (154, .iload_n 3), (155, .iconst 2), (156, .iadd), (157, .iaload), (158, .i2l), (159, .ldc2_w 18), (162, .land), (163, .lor), (164, .invokevirtual 24), (167, .if_icmp .eq 257), (170, .iconst 0), (171, .ireturn), (172, .aload_n 1), (173, .aload_n 0), (174, .iload_n 3), (175, .iconst 1), (176, .iadd), (177, .iaload), (178, .invokevirtual 25), (181, .aload_n 2), (182, .aload_n 0), (183, .iload_n 3), (184, .iconst 1), (185, .iadd), (186, .iaload), (187, .invokevirtual 28), (190, .if_icmp .eq 234), (193, .iconst 0), (194, .ireturn), (195, .aload_n 1), (196, .aload_n 0), (197, .iload_n 3), (198, .iconst 1), (199, .iadd), (200, .iaload), (201, .invokevirtual 29), (204, .aload_n 2), (205, .aload_n 0), (206, .iload_n 3), (207, .iconst 1), (208, .iadd), (209, .iaload), (210, .invokevirtual 32), (213, .if_icmp .eq 211), (216, .iconst 0), (217, .ireturn), (218, .aload_n 1), (219, .aload_n 0), (220, .iload_n 3), (221, .iconst 1), (222, .iadd), (223, .iaload), (224, .aload_n 0), (225, .iload_n 3), (226, .iconst 2), (227, .iadd), (228, .iaload), (229, .invokevirtual 33), (232, .aload_n 2), (233, .aload_n 0), (234, .iload_n 3), (235, .iconst 1), (236, .iadd), (237, .iaload), (238, .aload_n 0), (239, .iload_n 3), (240, .iconst 2), (241, .iadd), (242, .iaload), (243, .invokevirtual 37), (246, .if_icmp .eq 178), (249, .iconst 0), (250, .ireturn), (251, .aload_n 1), (252, .aload_n 0), (253, .iload_n 3), (254, .iconst 1), (255, .iadd), (256, .iaload), (257, .aload_n 0), (258, .iload_n 3), (259, .iconst 2), (260, .iadd), (261, .iaload), (262, .invokevirtual 38), (265, .aload_n 2), (266, .aload_n 0), (267, .iload_n 3), (268, .iconst 1), (269, .iadd), (270, .iaload), (271, .aload_n 0), (272, .iload_n 3), (273, .iconst 2), (274, .iadd), (275, .iaload), (276, .invokevirtual 41), (279, .if_icmp .eq 145), (282, .iconst 0), (283, .ireturn), (284, .aload_n 1), (285, .invokevirtual 42), (288, .aload_n 2), (289, .invokevirtual 46), (292, .if_icmp .eq 132), (295, .iconst 0), (296, .ireturn), (297, .aload_n 1), (298, .aload_n 0), (299, .iload_n 3), (300, .iconst 1), (301, .iadd), (302, .iaload), (303, .invokevirtual 47), (306, .aload_n 2), (307, .aload_n 0), (308, .iload_n 3), (309, .iconst 1), (310, .iadd), (311, .iaload), (312, .invokevirtual 50), (315, .if_icmp .eq 109), (318, .iconst 0), (319, .ireturn), (320, .aload_n 1), (321, .aload_n 0), (322, .iload_n 3), (323, .iconst 1), (324, .iadd), (325, .iaload), (326, .invokevirtual 51), (329, .aload_n 2), (330, .aload_n 0), (331, .iload_n 3), (332, .iconst 1), (333, .iadd), (334, .iaload), (335, .invokevirtual 55), (338, .lcmp), (339, .ifCond .eq 85), (342, .iconst 0), (343, .ireturn), (344, .aload_n 1), (345, .aload_n 0), (346, .iload_n 3), (347, .iconst 1), (348, .iadd), (349, .iaload), (350, .invokevirtual 56), (353, .aload_n 2), (354, .aload_n 0), (355, .iload_n 3), (356, .iconst 1), (357, .iadd), (358, .iaload), (359, .invokevirtual 59), (362, .if_icmp .eq 62), (365, .iconst 0), (366, .ireturn), (367, .aload_n 1), (368, .aload_n 0), (369, .iload_n 3), (370, .iconst 1), (371, .iadd), (372, .iaload), (373, .aload_n 0), (374, .iload_n 3), (375, .iconst 2), (376, .iadd), (377, .iaload), (378, .invokevirtual 60), (381, .aload_n 2), (382, .aload_n 0), (383, .iload_n 3), (384, .iconst 1), (385, .iadd), (386, .iaload), (387, .aload_n 0), (388, .iload_n 3), (389, .iconst 2), (390, .iadd), (391, .iaload), (392, .invokevirtual 64), (395, .lcmp), (396, .ifCond .eq 28), (399, .iconst 0), (400, .ireturn), (401, .aload_n 1), (402, .aload_n 0), (403, .iload_n 3), (404, .iconst 1), (405, .iadd), (406, .iaload), (407, .invokevirtual 65), (410, .aload_n 2), (411, .aload_n 0), (412, .iload_n 3), (413, .iconst 1), (414, .iadd), (415, .iaload), (416, .invokevirtual 68), (419, .if_icmp .eq 5), (422, .iconst 0), (423, .ireturn), (424, .iinc 3 3), (427, .goto (-409)), (430, .iconst 1), (431, .ireturn)]
def rv_97 : List (Nat × List Nat) := [(0, [0, 67, 68, 53]), (4, [4, 0, 1, 0, 69, 70, 53]), (8, [5, 396, 397, 58]), (12, [4, 65, 1, 0, 398, 399, 58]), (102, [2, 5, 2, 0, 164, 165, 166, 53]), (111, [2, 66, 2, 5, 450, 451, 452, 58]), (135, [557]), (140, [2, 10, 2, 0, 227, 228, 229, 53]), (159, [557]), (164, [2, 71, 2, 5, 466, 467, 468, 58]), (178, [2, 11, 2, 0, 232, 233, 234, 53]), (187, [2, 72, 2, 5, 471, 472, 473, 58]), (201, [2, 24, 2, 0, 272, 273, 274, 53]), (210, [2, 75, 2, 5, 481, 482, 483, 58]), (229, [2, 26, 3, 0, 278, 279, 280, 53]), (243, [2, 76, 3, 5, 485, 486, 487, 58]), (262, [2, 27, 3, 0, 282, 283, 284, 53]), (276, [2, 77, 3, 5, 489, 490, 491, 58]), (285, [2, 28, 1, 0, 286, 287, 288, 53]), (289, [2, 78, 1, 5, 493, 494, 495, 58]), (303, [2, 47, 2, 0, 340, 341, 342, 53]), (312, [2, 86, 2, 5, 518, 519, 520, 58]), (326, [2, 59, 2, 0, 374, 375, 376, 53]), (335, [2, 92, 2, 5, 537, 538, 539, 58]), (350, [2, 61, 2, 0, 381, 382, 383, 53]), (359, [2, 94, 2, 5, 545, 546, 547, 58]), (378, [2, 62, 3, 0, 385, 386, 387, 53]), (392, [2, 95, 3, 5, 549, 550, 551, 58]), (407, [2, 63, 2, 0, 389, 390, 391, 53]), (416, [2, 96, 2, 5, 553, 554, 555, 58])]
def insL : List (List (Nat × Instr)) := [ins_0, ins_1, ins_2, ins_3, ins_4, ins_5, ins_6, ins_7, ins_8, ins_9, ins_10, ins_11, ins_12, ins_13, ins_14, ins_15, ins_16, ins_17, ins_18, ins_19, ins_20, ins_21, ins_22, ins_23, ins_24, ins_25, ins_26, ins_27, ins_28, ins_29, ins_30, ins_31, ins_32, ins_33, ins_34, ins_35, ins_36, ins_37, ins_38, ins_39, ins_40, ins_41, ins_42, ins_43, ins_44, ins_45, ins_46, ins_47, ins_48, ins_49, ins_50, ins_51, ins_52, ins_53, ins_54, ins_55, ins_56, ins_57, ins_58, ins_59, ins_60, ins_61, ins_62, ins_63, ins_64, ins_65, ins_66, ins_67, ins_68, ins_69, ins_70, ins_71, ins_72, ins_73, ins_74, ins_75, ins_76, ins_77, ins_78, ins_79, ins_80, ins_81, ins_82, ins_83, ins_84, ins_85, ins_86, ins_87, ins_88, ins_89, ins_90, ins_91, ins_92, ins_93, ins_94, ins_95, ins_96, ins_97]
def insM (M pc : Nat) : Option Instr := (insL.getD M []).lookup pc
def rvL : List (List (Nat × List Nat)) := [rv_0, rv_1, rv_2, rv_3, rv_4, rv_5, rv_6, rv_7, rv_8, rv_9, rv_10, rv_11, rv_12, rv_13, rv_14, rv_15, rv_16, rv_17, rv_18, rv_19, rv_20, rv_21, rv_22, rv_23, rv_24, rv_25, rv_26, rv_27, rv_28, rv_29, rv_30, rv_31, rv_32, rv_33, rv_34, rv_35, rv_36, rv_37, rv_38, rv_39, rv_40, rv_41, rv_42, rv_43, rv_44, rv_45, rv_46, rv_47, rv_48, rv_49, rv_50, rv_51, rv_52, rv_53, rv_54, rv_55, rv_56, rv_57, rv_58, rv_59, rv_60, rv_61, rv_62, rv_63, rv_64, rv_65, rv_66, rv_67, rv_68, rv_69, rv_70, rv_71, rv_72, rv_73, rv_74, rv_75, rv_76, rv_77, rv_78, rv_79, rv_80, rv_81, rv_82, rv_83, rv_84, rv_85, rv_86, rv_87, rv_88, rv_89, rv_90, rv_91, rv_92, rv_93, rv_94, rv_95, rv_96, rv_97]
def rv (M pc : Nat) : List Nat := ((rvL.getD M []).lookup pc).getD []
def kIL : List (Nat × List (Nat × Int32)) := [(45, [(4, 1431655765), (11, 858993459), (18, 858993459), (29, 252645135)])]
def kI (M pc : Nat) : Int32 := (((kIL.lookup M).getD []).lookup pc).getD 0
def kJL : List (Nat × List (Nat × Int64)) := [(59, [(18, (-1000000000000))]), (62, [(18, (-1000000000000)), (52, (-1000000000000))]), (92, [(18, (-1000000000000))]), (95, [(31, (-1000000000000)), (74, (-1000000000000))]), (97, [(135, 4294967295), (159, 4294967295)])]
def kJ (M pc : Nat) : Int64 := (((kJL.lookup M).getD []).lookup pc).getD 0
end
section
/-! One step of the small machine, by the tables of the part of names: insM (instruction), rv (what it names), kI, kJ (constants), clT, tyF, nF (classes), nmM, cod, mx, rtM (methods). -/
def atag : ArrayType → Nat
  | .int => 0
  | .boolean => 1
  | _ => 9
def azero : ArrayType → ((Nat → Int32) ⊕ (Nat → Int64) ⊕ (Nat → UInt32) ⊕ (Nat → UInt64) ⊕ (Nat → Option Nat))
  | .long => .inr (.inl (fun _ => 0))
  | _ => .inl (fun _ => 0)
def dfs (ci : Nat) : List Value := (List.range (nF ci)).map fun k => defaultValue (tyF ci k)
def gfS (q : List Nat) (pc : Nat) (lo : ML) (st : List Value) (h : MH) : Option SR := match q with
  | ci :: k :: _ => (match st with
    | .ref a :: r => (match fgetv h a ci k with
      | some v => nx (pc + 3) lo (v :: r) h
      | none => none)
    | _ => none)
  | _ => none
def pfS (q : List Nat) (pc : Nat) (lo : ML) (st : List Value) (h : MH) : Option SR := match q with
  | ci :: k :: _ => (match st with
    | v :: .ref a :: r => (match fputh h a ci k (tyF ci k) v with
      | some h' => nx (pc + 3) lo r h'
      | none => none)
    | _ => none)
  | _ => none
def ialS (t pc : Nat) (lo : ML) (st : List Value) (h : MH) : Option SR := match st with
  | .int i :: .ref a :: r => (match ageti h t a i with
    | some x => nx (pc + 1) lo (.int x :: r) h
    | none => none)
  | _ => none
def iasS (t pc : Nat) (lo : ML) (st : List Value) (h : MH) : Option SR := match st with
  | .int x :: .int i :: .ref a :: r => if t = 1 ∧ ¬ (x &&& 1 = x) then none else (match aputi h t a i x with
    | some h' => nx (pc + 1) lo r h'
    | none => none)
  | _ => none
def aalS (pc : Nat) (lo : ML) (st : List Value) (h : MH) : Option SR := match st with
  | .int i :: .ref a :: r => (match agetr h a i with
    | some x => nx (pc + 1) lo (va_rf x :: r) h
    | none => none)
  | _ => none
def aasS (pc : Nat) (lo : ML) (st : List Value) (h : MH) : Option SR := match st with
  | .ref v :: .int i :: .ref a :: r => (match aputr h a i v with
    | some h' => nx (pc + 1) lo r h'
    | none => none)
  | _ => none
def alnS (pc : Nat) (lo : ML) (st : List Value) (h : MH) : Option SR := match st with
  | .ref a :: r => (match alenv h a with
    | some x => nx (pc + 1) lo (.int x :: r) h
    | none => none)
  | _ => none
def nwaS (t : ArrayType) (pc : Nat) (lo : ML) (st : List Value) (h : MH) : Option SR := match st with
  | .int n :: r => if ¬ n < 0 ∧ ¬ atag t = 9 ∧ n.toNatClampNeg ≤ 1000000 then nx (pc + 2) lo (.ref h.1 :: r) (mkarr h (atag t) n.toNatClampNeg (azero t)) else none
  | _ => none
def nwqS (q : List Nat) (pc : Nat) (lo : ML) (st : List Value) (h : MH) : Option SR := match q with
  | ci :: _ => (match st with
    | .int n :: r => if ¬ n < 0 ∧ n.toNatClampNeg ≤ 1000000 then nx (pc + 3) lo (.ref h.1 :: r) (mkarr h (10 + ci) n.toNatClampNeg (.inr (.inr (.inr (.inr (fun _ => none)))))) else none
    | _ => none)
  | _ => none
def nwS (q : List Nat) (pc : Nat) (lo : ML) (st : List Value) (h : MH) : Option SR := match q with
  | ci :: _ => nx (pc + 3) lo (.ref h.1 :: st) (mkobj h ci (nF ci) (dfs ci))
  | _ => none
/-- kinds of calls: 0 static, 1 static of a nest mate, 2 virtual, 3 virtual of a nest mate, 4 constructor, 5 a nest mate's, 6 built in -/
def rcv (kind ci : Nat) (as : List Value) (h : MH) : Bool := match kind with
  | 0 => true
  | 1 => true
  | 6 => true
  | 2 => (match as with
    | .ref a :: _ => decide (clsOf h a = some ci)
    | _ => false)
  | 3 => (match as with
    | .ref a :: _ => decide (clsOf h a = some ci)
    | _ => false)
  | 4 => (match as with
    | .ref _ :: _ => true
    | _ => false)
  | 5 => (match as with
    | .ref _ :: _ => true
    | _ => false)
  | _ => false
def invS (q : List Nat) (pc : Nat) (lo : ML) (st : List Value) (h : MH) : Option SR := match q with
  | kind :: M' :: n :: ci :: _ => if n ≤ st.length ∧ cats (st.drop n) ≤ 8 ∧ cats (st.take n).reverse ≤ mx M' ∧ rcv kind ci (st.take n).reverse h = true then some (.inr (.inl (M', (st.take n).reverse, (pc + 3, lo, st.drop n)))) else none
  | _ => none
def iretS (M : Nat) (st : List Value) : Option SR := match st with
  | [.int x] => if rtM M = some .int ∨ (rtM M = some .boolean ∧ x &&& 1 = x) then some (.inr (.inr (some (.int x)))) else none
  | _ => none
def lretS (M : Nat) (st : List Value) : Option SR := match st with
  | [.long x] => if rtM M = some .long then some (.inr (.inr (some (.long x)))) else none
  | _ => none
def isRf (ty : Option FieldType) : Bool := match ty with
  | some (.object _) => true
  | some (.array _) => true
  | _ => false
def aretS (M : Nat) (st : List Value) : Option SR := match st with
  | [.ref x] => if isRf (rtM M) = true then some (.inr (.inr (some (.ref x)))) else none
  | _ => none
def vretS (M : Nat) (st : List Value) : Option SR := match st with
  | [] => if rtM M = none then some (.inr (.inr none)) else none
  | _ => none
def stpH (M : Nat) (i : Instr) (pc : Nat) (lo : ML) (st : List Value) (h : MH) : Option SR := match i with
  | .ldc _ => nx (pc + 2) lo (.int (kI M pc) :: st) h
  | .ldc_w _ => nx (pc + 3) lo (.int (kI M pc) :: st) h
  | .ldc2_w _ => nx (pc + 3) lo (.long (kJ M pc) :: st) h
  | .getfield _ => gfS (rv M pc) pc lo st h
  | .putfield _ => pfS (rv M pc) pc lo st h
  | .iaload => ialS 0 pc lo st h
  | .baload => ialS 1 pc lo st h
  | .iastore => iasS 0 pc lo st h
  | .bastore => iasS 1 pc lo st h
  | .aaload => aalS pc lo st h
  | .aastore => aasS pc lo st h
  | .arraylength => alnS pc lo st h
  | .newarray t => nwaS t pc lo st h
  | .anewarray _ => nwqS (rv M pc) pc lo st h
  | .new _ => nwS (rv M pc) pc lo st h
  | .invokestatic _ => invS (rv M pc) pc lo st h
  | .invokevirtual _ => invS (rv M pc) pc lo st h
  | .invokespecial _ => invS (rv M pc) pc lo st h
  | .ireturn => iretS M st
  | .lreturn => lretS M st
  | .areturn => aretS M st
  | .return_ => vretS M st
  | _ => none
def stp (M pc : Nat) (lo : ML) (st : List Value) (h : MH) : Option SR := match insM M pc with
  | none => none
  | some i => (match stpP i pc lo st h with
    | some r => some r
    | none => stpH M i pc lo st h)
/-- the built-in methods: 900 Object's constructor, 901 System.arraycopy of ints, 902 isOperator -/
def acopy (h : MH) (a0 : Nat) (sp : Int32) (a : Nat) (dp n : Int32) : Option MH := match h.2.2 a0, h.2.2 a with
  | some (.inl (t0, n0, .inl f)), some (.inl (t1, n1, .inl g)) => if t0 = 0 ∧ t1 = 0 ∧ ¬ sp < 0 ∧ ¬ dp < 0 ∧ ¬ n < 0 ∧ sp.toNatClampNeg + n.toNatClampNeg ≤ n0 ∧ dp.toNatClampNeg + n.toNatClampNeg ≤ n1 ∧ a0 ≠ 0 ∧ a ≠ 0 then some (h.1, h.2.1, va_up h.2.2 a (some (.inl (t1, n1, .inl (va_cpy f g sp.toNatClampNeg dp.toNatClampNeg n.toNatClampNeg))))) else none
  | _, _ => none
def isOpc (c : Int32) : Bool := ([43, 45, 42, 60, 61, 38, 33, 63, 80, 70, 87, 67] : List Int32).contains c
def biR (M' : Nat) (as : List Value) (h : MH) : Option MR := match M' with
  | 0 => (match as with
    | [.ref _] => some (none, h)
    | _ => none)
  | 1 => (match as with
    | [.ref a0, .int sp, .ref a, .int dp, .int n] => (match acopy h a0 sp a dp n with
      | some h' => some (none, h')
      | none => none)
    | _ => none)
  | 2 => (match as with
    | [.int c] => some (some (.int (if isOpc c = true then 1 else 0)), h)
    | _ => none)
  | _ => none
def bi (M' : Nat) (as : List Value) (h : MH) : Option MR := if M' < 900 then none else biR (M' - 900) as h
theorem acopy_size {h h' : MH} {a0 a : Nat} {sp dp n : Int32} (hv : acopy h a0 sp a dp n = some h') : h'.1 = h.1 ∧ h'.2.1 = h.2.1 := by
  unfold acopy at hv
  split at hv
  · split at hv
    · cases hv; exact ⟨rfl, rfl⟩
    · cases hv
  · cases hv
theorem bi_size {M' : Nat} {as : List Value} {h : MH} {V : MR} (hb : bi M' as h = some V) : h.1 ≤ V.2.1 ∧ h.2.1 ≤ V.2.2.1 := by
  unfold bi at hb
  split at hb
  · cases hb
  · unfold biR at hb
    split at hb
    · split at hb
      · cases hb; exact ⟨Nat.le_refl _, Nat.le_refl _⟩
      · cases hb
    · split at hb
      · split at hb
        · next hv => cases hb; exact ⟨Nat.le_of_eq (acopy_size hv).1.symm, Nat.le_of_eq (acopy_size hv).2.symm⟩
        · cases hb
      · cases hb
    · split at hb
      · cases hb; exact ⟨Nat.le_refl _, Nat.le_refl _⟩
      · cases hb
    · cases hb
theorem bi_ge {M' : Nat} {as : List Value} {h : MH} {V : MR} (hb : bi M' as h = some V) : 900 ≤ M' := by
  unfold bi at hb
  split at hb
  · cases hb
  · omega
theorem bi_none {M' : Nat} (hM : M' < 900) (as : List Value) (h : MH) : bi M' as h = none := if_pos hM
/-! Runs of the small machine. n: steps; d: how many frames may stand above this one. -/
def entL : List Value → ML
  | [] => []
  | v :: vs => if v.category = 2 then some v :: mSec :: entL vs else some v :: entL vs
def ent (n : Nat) (as : List Value) : ML := entL as ++ List.replicate (n - (entL as).length) none
def ex : Nat → Nat → Nat → Nat → ML → List Value → MH → Option MR
  | 0, _, _, _, _, _, _ => none
  | n + 1, d, M, pc, lo, st, h => match stp M pc lo st h with
    | none => none
    | some (.inl (f, h')) => ex n d M f.1 f.2.1 f.2.2 h'
    | some (.inr (.inr v)) => some (v, h)
    | some (.inr (.inl (M', as, f))) => match bi M' as h with
      | some R => if d < 6 then none else ex n d M f.1 f.2.1 (R.1.toList ++ f.2.2) R.2
      | none => match d with
        | 0 => none
        | d' + 1 => match ex n d' M' 0 (ent (mx M') as) [] h with
          | none => none
          | some (v, h') => ex n d M f.1 f.2.1 (v.toList ++ f.2.2) h'
theorem ex_next {n d M pc : Nat} {lo : ML} {st : List Value} {h h' : MH} {f : MF} (hs : stp M pc lo st h = some (.inl (f, h'))) : ex (n + 1) d M pc lo st h = ex n d M f.1 f.2.1 f.2.2 h' := by
  simp only [ex, hs]
theorem ex_ret {n d M pc : Nat} {lo : ML} {st : List Value} {h : MH} {v : Option Value} (hs : stp M pc lo st h = some (.inr (.inr v))) : ex (n + 1) d M pc lo st h = some (v, h) := by
  simp only [ex, hs]
theorem ex_bi {n d M pc M' : Nat} {as : List Value} {lo : ML} {st : List Value} {h : MH} {f : MF} {R : MR} (hs : stp M pc lo st h = some (.inr (.inl (M', as, f)))) (hb : bi M' as h = some R) : ex (n + 1) (d + 6) M pc lo st h = ex n (d + 6) M f.1 f.2.1 (R.1.toList ++ f.2.2) R.2 := by
  have : ¬ d + 6 < 6 := by omega
  simp only [ex, hs, hb, if_neg this]
theorem ex_call {n d M pc M' : Nat} {as : List Value} {lo : ML} {st : List Value} {h : MH} {f : MF} (hs : stp M pc lo st h = some (.inr (.inl (M', as, f)))) (hb : bi M' as h = none) : ex (n + 1) (d + 1) M pc lo st h = (ex n d M' 0 (ent (mx M') as) [] h).bind (fun R => ex n (d + 1) M f.1 f.2.1 (R.1.toList ++ f.2.2) R.2) := by
  simp only [ex, hs, hb]
  cases ex n d M' 0 (ent (mx M') as) [] h <;> rfl
theorem ex_mono : ∀ (n d M pc : Nat) (lo : ML) (st : List Value) (h : MH) (R : MR), ex n d M pc lo st h = some R → ex (n + 1) d M pc lo st h = some R := by
  intro n
  induction n with
  | zero => intro d M pc lo st h R hR; cases hR
  | succ n ih =>
    intro d M pc lo st h R hR
    cases hs : stp M pc lo st h with
    | none => simp only [ex, hs] at hR; cases hR
    | some r =>
      obtain ⟨f, h'⟩ | ⟨M', as, f⟩ | v := r
      · rw [ex_next hs] at hR ⊢
        exact ih _ _ _ _ _ _ _ hR
      · cases hb : bi M' as h with
        | some v =>
          by_cases hd : d < 6
          · exfalso
            simp only [ex, hs, hb, if_pos hd] at hR
            cases hR
          · obtain ⟨d, rfl⟩ : ∃ k, d = k + 6 := ⟨d - 6, by omega⟩
            rw [ex_bi hs hb] at hR ⊢
            exact ih _ _ _ _ _ _ _ hR
        | none =>
          cases d with
          | zero =>
            exfalso
            simp only [ex, hs, hb] at hR
            cases hR
          | succ d =>
            rw [ex_call hs hb] at hR ⊢
            cases h1 : ex n d M' 0 (ent (mx M') as) [] h with
            | none => rw [h1] at hR; cases hR
            | some R1 =>
              rw [h1] at hR
              rw [ih _ _ _ _ _ _ _ h1]
              exact ih _ _ _ _ _ _ _ hR
      · rw [ex_ret hs] at hR ⊢
        exact hR
theorem ex_le {n k d M pc : Nat} {lo : ML} {st : List Value} {h : MH} {R : MR} (hR : ex n d M pc lo st h = some R) : ex (n + k) d M pc lo st h = some R := by
  induction k with
  | zero => exact hR
  | succ k ih => exact ex_mono _ _ _ _ _ _ _ _ ih
noncomputable def rn (d M pc : Nat) (lo : ML) (st : List Value) (h : MH) : Option MR := @dite (Option MR) (∃ R n, ex n d M pc lo st h = some R) (Classical.propDecidable _) (fun H => some (Classical.choose H)) (fun _ => none)
theorem rn_iff {d M pc : Nat} {lo : ML} {st : List Value} {h : MH} {R : MR} : rn d M pc lo st h = some R ↔ ∃ n, ex n d M pc lo st h = some R := by
  unfold rn
  constructor
  · intro hR
    split at hR
    · next H =>
      cases hR
      exact Classical.choose_spec H
    · cases hR
  · rintro ⟨n, hn⟩
    have H : ∃ R n, ex n d M pc lo st h = some R := ⟨R, n, hn⟩
    rw [dif_pos H]
    obtain ⟨k, hk⟩ := Classical.choose_spec H
    have h1 := ex_le (k := k) hn
    have h2 := ex_le (k := n) hk
    rw [Nat.add_comm k n, h1] at h2
    exact congrArg some (Option.some.inj h2).symm
theorem opt_ext {α : Type} {x y : Option α} (h : ∀ a, x = some a ↔ y = some a) : x = y := by
  cases x with
  | none => cases y with
    | none => rfl
    | some b => exact absurd ((h b).mpr rfl) (by simp)
  | some a => exact ((h a).mp rfl).symm
theorem rn_next {d M pc pc' : Nat} {lo lo' : ML} {st st' : List Value} {h h' : MH} (hs : stp M pc lo st h = some (.inl ((pc', lo', st'), h'))) : rn d M pc lo st h = rn d M pc' lo' st' h' := by
  apply opt_ext
  intro R
  rw [rn_iff, rn_iff]
  constructor
  · rintro ⟨n, hn⟩
    cases n with
    | zero => cases hn
    | succ n => exact ⟨n, by rw [ex_next hs] at hn; exact hn⟩
  · rintro ⟨n, hn⟩
    exact ⟨n + 1, by rw [ex_next hs]; exact hn⟩
theorem rn_ret {d M pc : Nat} {lo : ML} {st : List Value} {h : MH} {v : Option Value} (hs : stp M pc lo st h = some (.inr (.inr v))) : rn d M pc lo st h = some (v, h) :=
  rn_iff.mpr ⟨1, ex_ret hs⟩
theorem rn_bi {d M pc M' pc' : Nat} {as : List Value} {lo lo' : ML} {st st' : List Value} {h : MH} {V : MR} (hs : stp M pc lo st h = some (.inr (.inl (M', as, (pc', lo', st'))))) (hb : bi M' as h = some V) : rn (d + 6) M pc lo st h = rn (d + 6) M pc' lo' (V.1.toList ++ st') V.2 := by
  apply opt_ext
  intro R
  rw [rn_iff, rn_iff]
  constructor
  · rintro ⟨n, hn⟩
    cases n with
    | zero => cases hn
    | succ n => exact ⟨n, by rw [ex_bi hs hb] at hn; exact hn⟩
  · rintro ⟨n, hn⟩
    exact ⟨n + 1, by rw [ex_bi hs hb]; exact hn⟩
theorem rn_call {d M pc M' pc' : Nat} {as : List Value} {lo lo' : ML} {st st' : List Value} {h : MH} (hs : stp M pc lo st h = some (.inr (.inl (M', as, (pc', lo', st'))))) (hb : bi M' as h = none) : rn (d + 1) M pc lo st h = (rn d M' 0 (ent (mx M') as) [] h).bind (fun R => rn (d + 1) M pc' lo' (R.1.toList ++ st') R.2) := by
  apply opt_ext
  intro R
  rw [rn_iff]
  constructor
  · rintro ⟨n, hn⟩
    cases n with
    | zero => cases hn
    | succ n =>
      rw [ex_call hs hb] at hn
      cases h1 : ex n d M' 0 (ent (mx M') as) [] h with
      | none => rw [h1] at hn; cases hn
      | some R1 =>
        rw [h1] at hn
        rw [rn_iff.mpr ⟨n, h1⟩]
        exact rn_iff.mpr ⟨n, hn⟩
  · intro hR
    cases h1 : rn d M' 0 (ent (mx M') as) [] h with
    | none => rw [h1] at hR; cases hR
    | some R1 =>
      rw [h1] at hR
      obtain ⟨n1, e1⟩ := rn_iff.mp h1
      obtain ⟨n2, e2⟩ := rn_iff.mp (show rn (d + 1) M pc' lo' (R1.1.toList ++ st') R1.2 = some R from hR)
      refine ⟨n1 + n2 + 1, ?_⟩
      rw [ex_call hs hb, ex_le e1]
      show ex (n1 + n2) (d + 1) M pc' lo' (R1.1.toList ++ st') R1.2 = some R
      rw [Nat.add_comm]
      exact ex_le e2
end
section
def wat (j : Nat) (w : Cond) : Bool := decide (TB[j]? = some w)
def nwat (j : Nat) (w : Cond) : Bool := decide (NW[j]? = some w)
theorem wat_in {j : Nat} {w : Cond} (h : wat j w = true) : w ∈ TB := List.mem_of_getElem? (of_decide_eq_true h)
theorem nwat_in {j : Nat} {w : Cond} (h : nwat j w = true) : w ∈ NW := List.mem_of_getElem? (of_decide_eq_true h)
def okF (host own : String) (idx : Nat) (q : List Nat) : Bool := match q with
  | ci :: k :: md :: j :: _ => (match clT[ci]? with
    | some (_, T, N) => decide (k < N) && (match md with
      | 0 => wat j (.fieldLink own idx (T k).1 (T k).2.1 (T k).2.2.1)
      | _ => nwat j (.fieldLinkNest own idx (T k).1 (T k).2.1 (T k).2.2.1 host))
    | none => false)
  | _ => false
def okP (host own nm : String) (idx : Nat) (q : List Nat) : Bool := match q with
  | ci :: k :: md :: j :: _ => (match clT[ci]? with
    | some (_, T, N) => decide (k < N) && (match md with
      | 0 => decide ((T k).2.2.2 = false) && wat j (.fieldLink own idx (T k).1 (T k).2.1 (T k).2.2.1)
      | 1 => decide ((T k).2.2.2 = false) && nwat j (.fieldLinkNest own idx (T k).1 (T k).2.1 (T k).2.2.1 host)
      | _ => decide ((T k).2.2.2 = true) && (decide (nm = "<init>") && (decide ((T k).1 = own) && wat j (.fieldLink own idx (T k).1 (T k).2.1 (T k).2.2.1))))
    | none => false)
  | _ => false
def okN (own : String) (idx : Nat) (q : List Nat) : Bool := match q with
  | ci :: j1 :: j2 :: j3 :: _ => (match clT[ci]? with
    | some (C, _, N) => decide (N = nF ci) && (wat j1 (.classLink own idx C) && (wat j2 (.instantiable C N) && wat j3 (.initialized C)))
    | none => false)
  | _ => false
def okQ (own : String) (idx : Nat) (q : List Nat) : Bool := match q with
  | ci :: j1 :: _ => (match clT[ci]? with
    | some (C, _, _) => wat j1 (.classLink own idx C) && (decide (10 + ci ∈ srtL) && (decide (tyT (10 + ci) = .object C) && decide (C ∈ AOL)))
    | none => false)
  | _ => false
def okD (y : MethodName) (n : Nat) : Bool := decide (y.cls ≠ "java/lang/invoke/MethodHandle") && (decide (y.cls ≠ "java/lang/invoke/VarHandle") && decide ((parseMethodDescriptor y.desc).map (fun d => d.parameters.length) = some n))
def okB (own : String) (idx M' n : Nat) : Bool := match M' with
  | 900 => decide (n = 1) && decide (Cond.methodLink own idx Lib.objectInit ∈ TB)
  | 901 => decide (n = 5) && decide (Cond.methodLink own idx arraycopyName ∈ TB)
  | 902 => decide (n = 1) && (decide (own = "FlowEquations") && decide (Cond.methodLink own idx ⟨"FlowEquations", "isOperator", "(I)Z"⟩ ∈ TB))
  | _ => false
theorem okB_ge' {own : String} {idx M' n : Nat} (h : okB own idx M' n = true) : 900 ≤ M' := by
  unfold okB at h
  split at h
  · omega
  · omega
  · omega
  · cases h
theorem okB_ge {own : String} {idx M' n : Nat} (h : okB own idx M' n = true) (hM : M' < nM) : False := by
  have := okB_ge' h
  have h2 : nM ≤ 900 := by decide
  omega
/-- static calls -/
def okS (host own : String) (idx : Nat) (q : List Nat) : Bool := match q with
  | kind :: M' :: n :: _ :: j1 :: j2 :: j3 :: _ => (match kind with
    | 0 => decide (M' < nM) && (okD (nmM M') n && (wat j1 (.methodLink own idx (nmM M')) && (wat j2 (.static (nmM M')) && wat j3 (.initialized (nmM M').cls))))
    | 1 => decide (M' < nM) && (okD (nmM M') n && (nwat j1 (.methodLinkNest own idx (nmM M') host) && (wat j2 (.static (nmM M')) && wat j3 (.initialized (nmM M').cls))))
    | 6 => decide (M' ≠ 900) && okB own idx M' n
    | _ => false)
  | _ => false
def okV (host own : String) (idx : Nat) (q : List Nat) : Bool := match q with
  | kind :: M' :: n :: ci :: j1 :: j2 :: j3 :: j4 :: _ => decide (M' < nM) && ((match clT[ci]? with
    | some (C, _, _) => decide ((nmM M').cls = C)
    | none => false) && (decide (0 < n) && (okD (nmM M') (n - 1) && (wat j2 (.instanceMethod (nmM M')) && (wat j3 (.selects (nmM M').cls (nmM M') (nmM M')) && (wat j4 (.initialized (nmM M').cls) && (match kind with
    | 2 => wat j1 (.methodLink own idx (nmM M'))
    | 3 => nwat j1 (.methodLinkNest own idx (nmM M') host)
    | _ => false)))))))
  | _ => false
def okC (host own : String) (idx : Nat) (q : List Nat) : Bool := match q with
  | kind :: M' :: n :: _ :: j1 :: j2 :: j3 :: _ => (match kind with
    | 6 => decide (M' = 900) && okB own idx M' n
    | _ => decide (M' < nM) && (decide (0 < n) && (decide ((nmM M').name = "<init>") && (decide (rtM M' = none) && (okD (nmM M') (n - 1) && (wat j2 (.instanceMethod (nmM M')) && (wat j3 (.initialized (nmM M').cls) && (match kind with
      | 4 => wat j1 (.methodLink own idx (nmM M'))
      | 5 => nwat j1 (.methodLinkNest own idx (nmM M') host)
      | _ => false))))))))
  | _ => false
def okI (M pc : Nat) (i : Instr) : Bool := match i with
  | .ldc idx => (match rv M pc with
    | j :: _ => wat j (.constant (nmM M).cls idx (kI M pc))
    | _ => false)
  | .ldc_w idx => (match rv M pc with
    | j :: _ => wat j (.constant (nmM M).cls idx (kI M pc))
    | _ => false)
  | .ldc2_w idx => (match rv M pc with
    | j :: _ => wat j (.constantLong (nmM M).cls idx (kJ M pc))
    | _ => false)
  | .getfield idx => okF (hostM M) (nmM M).cls idx (rv M pc)
  | .putfield idx => okP (hostM M) (nmM M).cls (nmM M).name idx (rv M pc)
  | .new idx => okN (nmM M).cls idx (rv M pc)
  | .anewarray idx => okQ (nmM M).cls idx (rv M pc)
  | .newarray t => (match rv M pc with
    | j :: _ => wat j (.arrayClass (newarray.typeOf t)) && (decide (atag t ∈ srtL) && (decide (tyT (atag t) = newarray.typeOf t) && decide (t = .int ∨ t = .boolean)))
    | _ => false)
  | .invokestatic idx => okS (hostM M) (nmM M).cls idx (rv M pc)
  | .invokevirtual idx => okV (hostM M) (nmM M).cls idx (rv M pc)
  | .invokespecial idx => okC (hostM M) (nmM M).cls idx (rv M pc)
  | _ => true

/-- an entry of the tables: it is the code's, and what it names is there -/
def chk (M : Nat) (q : Nat × Instr) : Bool := (match decode (cod M) q.1 with
  | .ok (i, len) => decide (i = q.2) && (sw q.2 || decide (len = ln q.2))
  | _ => false) && okI M q.1 q.2
set_option maxRecDepth 100000 in
theorem dk_0 : ins_0.all (chk 0) = true := by decide +kernel
set_option maxRecDepth 100000 in
theorem dk_1 : ins_1.all (chk 1) = true := by decide +kernel
set_option maxRecDepth 100000 in
theorem dk_2 : ins_2.all (chk 2) = true := by decide +kernel
set_option maxRecDepth 100000 in
theorem dk_3 : ins_3.all (chk 3) = true := by decide +kernel
set_option maxRecDepth 100000 in
theorem dk_4 : ins_4.all (chk 4) = true := by decide +kernel
set_option maxRecDepth 100000 in
theorem dk_5 : ins_5.all (chk 5) = true := by decide +kernel
set_option maxRecDepth 100000 in
theorem dk_6 : ins_6.all (chk 6) = true := by decide +kernel
set_option maxRecDepth 100000 in
theorem dk_7 : ins_7.all (chk 7) = true := by decide +kernel
set_option maxRecDepth 100000 in
theorem dk_8 : ins_8.all (chk 8) = true := by decide +kernel
set_option maxRecDepth 100000 in
theorem dk_9 : ins_9.all (chk 9) = true := by decide +kernel
set_option maxRecDepth 100000 in
theorem dk_10 : ins_10.all (chk 10) = true := by decide +kernel
set_option maxRecDepth 100000 in
theorem dk_11 : ins_11.all (chk 11) = true := by decide +kernel
set_option maxRecDepth 100000 in
theorem dk_12 : ins_12.all (chk 12) = true := by decide +kernel
set_option maxRecDepth 100000 in
theorem dk_13 : ins_13.all (chk 13) = true := by decide +kernel
set_option maxRecDepth 100000 in
theorem dk_14 : ins_14.all (chk 14) = true := by decide +kernel
set_option maxRecDepth 100000 in
theorem dk_15 : ins_15.all (chk 15) = true := by decide +kernel
set_option maxRecDepth 100000 in
theorem dk_16 : ins_16.all (chk 16) = true := by decide +kernel
set_option maxRecDepth 100000 in
theorem dk_17 : ins_17.all (chk 17) = true := by decide +kernel
set_option maxRecDepth 100000 in
theorem dk_18 : ins_18.all (chk 18) = true := by decide +kernel
set_option maxRecDepth 100000 in
theorem dk_19 : ins_19.all (chk 19) = true := by decide +kernel
set_option maxRecDepth 100000 in
theorem dk_20 : ins_20.all (chk 20) = true := by decide +kernel
set_option maxRecDepth 100000 in
theorem dk_21 : ins_21.all (chk 21) = true := by decide +kernel
set_option maxRecDepth 100000 in
theorem dk_22 : ins_22.all (chk 22) = true := by decide +kernel
set_option maxRecDepth 100000 in
theorem dk_23 : ins_23.all (chk 23) = true := by decide +kernel
set_option maxRecDepth 100000 in
theorem dk_24 : ins_24.all (chk 24) = true := by decide +kernel
set_option maxRecDepth 100000 in
theorem dk_25 : ins_25.all (chk 25) = true := by decide +kernel
set_option maxRecDepth 100000 in
theorem dk_26 : ins_26.all (chk 26) = true := by decide +kernel
set_option maxRecDepth 100000 in
theorem dk_27 : ins_27.all (chk 27) = true := by decide +kernel
set_option maxRecDepth 100000 in
theorem dk_28 : ins_28.all (chk 28) = true := by decide +kernel
set_option maxRecDepth 100000 in
theorem dk_29 : ins_29.all (chk 29) = true := by decide +kernel
set_option maxRecDepth 100000 in
theorem dk_30 : ins_30.all (chk 30) = true := by decide +kernel
set_option maxRecDepth 100000 in
theorem dk_31 : ins_31.all (chk 31) = true := by decide +kernel
set_option maxRecDepth 100000 in
theorem dk_32 : ins_32.all (chk 32) = true := by decide +kernel
set_option maxRecDepth 100000 in
theorem dk_33 : ins_33.all (chk 33) = true := by decide +kernel
set_option maxRecDepth 100000 in
theorem dk_34 : ins_34.all (chk 34) = true := by decide +kernel
set_option maxRecDepth 100000 in
theorem dk_35 : ins_35.all (chk 35) = true := by decide +kernel
set_option maxRecDepth 100000 in
theorem dk_36 : ins_36.all (chk 36) = true := by decide +kernel
set_option maxRecDepth 100000 in
theorem dk_37 : ins_37.all (chk 37) = true := by decide +kernel
set_option maxRecDepth 100000 in
theorem dk_38 : ins_38.all (chk 38) = true := by decide +kernel
set_option maxRecDepth 100000 in
theorem dk_39 : ins_39.all (chk 39) = true := by decide +kernel
set_option maxRecDepth 100000 in
theorem dk_40 : ins_40.all (chk 40) = true := by decide +kernel
set_option maxRecDepth 100000 in
theorem dk_41 : ins_41.all (chk 41) = true := by decide +kernel
set_option maxRecDepth 100000 in
theorem dk_42 : ins_42.all (chk 42) = true := by decide +kernel
set_option maxRecDepth 100000 in
theorem dk_43 : ins_43.all (chk 43) = true := by decide +kernel
set_option maxRecDepth 100000 in
theorem dk_44 : ins_44.all (chk 44) = true := by decide +kernel
set_option maxRecDepth 100000 in
theorem dk_45 : ins_45.all (chk 45) = true := by decide +kernel
set_option maxRecDepth 100000 in
theorem dk_46 : ins_46.all (chk 46) = true := by decide +kernel
set_option maxRecDepth 100000 in
theorem dk_47 : ins_47.all (chk 47) = true := by decide +kernel
set_option maxRecDepth 100000 in
theorem dk_48 : ins_48.all (chk 48) = true := by decide +kernel
set_option maxRecDepth 100000 in
theorem dk_49 : ins_49.all (chk 49) = true := by decide +kernel
set_option maxRecDepth 100000 in
theorem dk_50 : ins_50.all (chk 50) = true := by decide +kernel
set_option maxRecDepth 100000 in
theorem dk_51 : ins_51.all (chk 51) = true := by decide +kernel
set_option maxRecDepth 100000 in
theorem dk_52 : ins_52.all (chk 52) = true := by decide +kernel
set_option maxRecDepth 100000 in
theorem dk_53 : ins_53.all (chk 53) = true := by decide +kernel
set_option maxRecDepth 100000 in
theorem dk_54 : ins_54.all (chk 54) = true := by decide +kernel
set_option maxRecDepth 100000 in
theorem dk_55 : ins_55.all (chk 55) = true := by decide +kernel
set_option maxRecDepth 100000 in
theorem dk_56 : ins_56.all (chk 56) = true := by decide +kernel
set_option maxRecDepth 100000 in
theorem dk_57 : ins_57.all (chk 57) = true := by decide +kernel
set_option maxRecDepth 100000 in
theorem dk_58 : ins_58.all (chk 58) = true := by decide +kernel
set_option maxRecDepth 100000 in
theorem dk_59 : ins_59.all (chk 59) = true := by decide +kernel
set_option maxRecDepth 100000 in
theorem dk_60 : ins_60.all (chk 60) = true := by decide +kernel
set_option maxRecDepth 100000 in
theorem dk_61 : ins_61.all (chk 61) = true := by decide +kernel
set_option maxRecDepth 100000 in
theorem dk_62 : ins_62.all (chk 62) = true := by decide +kernel
set_option maxRecDepth 100000 in
theorem dk_63 : ins_63.all (chk 63) = true := by decide +kernel
set_option maxRecDepth 100000 in
theorem dk_64 : ins_64.all (chk 64) = true := by decide +kernel
set_option maxRecDepth 100000 in
theorem dk_65 : ins_65.all (chk 65) = true := by decide +kernel
set_option maxRecDepth 100000 in
theorem dk_66 : ins_66.all (chk 66) = true := by decide +kernel
set_option maxRecDepth 100000 in
theorem dk_67 : ins_67.all (chk 67) = true := by decide +kernel
set_option maxRecDepth 100000 in
theorem dk_68 : ins_68.all (chk 68) = true := by decide +kernel
set_option maxRecDepth 100000 in
theorem dk_69 : ins_69.all (chk 69) = true := by decide +kernel
set_option maxRecDepth 100000 in
theorem dk_70 : ins_70.all (chk 70) = true := by decide +kernel
set_option maxRecDepth 100000 in
theorem dk_71 : ins_71.all (chk 71) = true := by decide +kernel
set_option maxRecDepth 100000 in
theorem dk_72 : ins_72.all (chk 72) = true := by decide +kernel
set_option maxRecDepth 100000 in
theorem dk_73 : ins_73.all (chk 73) = true := by decide +kernel
set_option maxRecDepth 100000 in
theorem dk_74 : ins_74.all (chk 74) = true := by decide +kernel
set_option maxRecDepth 100000 in
theorem dk_75 : ins_75.all (chk 75) = true := by decide +kernel
set_option maxRecDepth 100000 in
theorem dk_76 : ins_76.all (chk 76) = true := by decide +kernel
set_option maxRecDepth 100000 in
theorem dk_77 : ins_77.all (chk 77) = true := by decide +kernel
set_option maxRecDepth 100000 in
theorem dk_78 : ins_78.all (chk 78) = true := by decide +kernel
set_option maxRecDepth 100000 in
theorem dk_79 : ins_79.all (chk 79) = true := by decide +kernel
set_option maxRecDepth 100000 in
theorem dk_80 : ins_80.all (chk 80) = true := by decide +kernel
set_option maxRecDepth 100000 in
theorem dk_81 : ins_81.all (chk 81) = true := by decide +kernel
set_option maxRecDepth 100000 in
theorem dk_82 : ins_82.all (chk 82) = true := by decide +kernel
set_option maxRecDepth 100000 in
theorem dk_83 : ins_83.all (chk 83) = true := by decide +kernel
set_option maxRecDepth 100000 in
theorem dk_84 : ins_84.all (chk 84) = true := by decide +kernel
set_option maxRecDepth 100000 in
theorem dk_85 : ins_85.all (chk 85) = true := by decide +kernel
set_option maxRecDepth 100000 in
theorem dk_86 : ins_86.all (chk 86) = true := by decide +kernel
set_option maxRecDepth 100000 in
theorem dk_87 : ins_87.all (chk 87) = true := by decide +kernel
set_option maxRecDepth 100000 in
theorem dk_88 : ins_88.all (chk 88) = true := by decide +kernel
set_option maxRecDepth 100000 in
theorem dk_89 : ins_89.all (chk 89) = true := by decide +kernel
set_option maxRecDepth 100000 in
theorem dk_90 : ins_90.all (chk 90) = true := by decide +kernel
set_option maxRecDepth 100000 in
theorem dk_91 : ins_91.all (chk 91) = true := by decide +kernel
set_option maxRecDepth 100000 in
theorem dk_92 : ins_92.all (chk 92) = true := by decide +kernel
set_option maxRecDepth 100000 in
theorem dk_93 : ins_93.all (chk 93) = true := by decide +kernel
set_option maxRecDepth 100000 in
theorem dk_94 : ins_94.all (chk 94) = true := by decide +kernel
set_option maxRecDepth 100000 in
theorem dk_95 : ins_95.all (chk 95) = true := by decide +kernel
set_option maxRecDepth 100000 in
theorem dk_96 : ins_96.all (chk 96) = true := by decide +kernel
set_option maxRecDepth 100000 in
theorem dk_97 : ins_97.all (chk 97) = true := by decide +kernel
theorem dk_all : ∀ M, (insL.getD M []).all (chk M) = true := by
  intro M
  match M with
  | 0 => exact dk_0
  | 1 => exact dk_1
  | 2 => exact dk_2
  | 3 => exact dk_3
  | 4 => exact dk_4
  | 5 => exact dk_5
  | 6 => exact dk_6
  | 7 => exact dk_7
  | 8 => exact dk_8
  | 9 => exact dk_9
  | 10 => exact dk_10
  | 11 => exact dk_11
  | 12 => exact dk_12
  | 13 => exact dk_13
  | 14 => exact dk_14
  | 15 => exact dk_15
  | 16 => exact dk_16
  | 17 => exact dk_17
  | 18 => exact dk_18
  | 19 => exact dk_19
  | 20 => exact dk_20
  | 21 => exact dk_21
  | 22 => exact dk_22
  | 23 => exact dk_23
  | 24 => exact dk_24
  | 25 => exact dk_25
  | 26 => exact dk_26
  | 27 => exact dk_27
  | 28 => exact dk_28
  | 29 => exact dk_29
  | 30 => exact dk_30
  | 31 => exact dk_31
  | 32 => exact dk_32
  | 33 => exact dk_33
  | 34 => exact dk_34
  | 35 => exact dk_35
  | 36 => exact dk_36
  | 37 => exact dk_37
  | 38 => exact dk_38
  | 39 => exact dk_39
  | 40 => exact dk_40
  | 41 => exact dk_41
  | 42 => exact dk_42
  | 43 => exact dk_43
  | 44 => exact dk_44
  | 45 => exact dk_45
  | 46 => exact dk_46
  | 47 => exact dk_47
  | 48 => exact dk_48
  | 49 => exact dk_49
  | 50 => exact dk_50
  | 51 => exact dk_51
  | 52 => exact dk_52
  | 53 => exact dk_53
  | 54 => exact dk_54
  | 55 => exact dk_55
  | 56 => exact dk_56
  | 57 => exact dk_57
  | 58 => exact dk_58
  | 59 => exact dk_59
  | 60 => exact dk_60
  | 61 => exact dk_61
  | 62 => exact dk_62
  | 63 => exact dk_63
  | 64 => exact dk_64
  | 65 => exact dk_65
  | 66 => exact dk_66
  | 67 => exact dk_67
  | 68 => exact dk_68
  | 69 => exact dk_69
  | 70 => exact dk_70
  | 71 => exact dk_71
  | 72 => exact dk_72
  | 73 => exact dk_73
  | 74 => exact dk_74
  | 75 => exact dk_75
  | 76 => exact dk_76
  | 77 => exact dk_77
  | 78 => exact dk_78
  | 79 => exact dk_79
  | 80 => exact dk_80
  | 81 => exact dk_81
  | 82 => exact dk_82
  | 83 => exact dk_83
  | 84 => exact dk_84
  | 85 => exact dk_85
  | 86 => exact dk_86
  | 87 => exact dk_87
  | 88 => exact dk_88
  | 89 => exact dk_89
  | 90 => exact dk_90
  | 91 => exact dk_91
  | 92 => exact dk_92
  | 93 => exact dk_93
  | 94 => exact dk_94
  | 95 => exact dk_95
  | 96 => exact dk_96
  | 97 => exact dk_97
  | k + 98 => rfl
theorem lookup_in {α : Type} : ∀ (l : List (Nat × α)) (k : Nat) (a : α), l.lookup k = some a → (k, a) ∈ l
  | [], _, _, h => by cases h
  | (k', a') :: l, k, a, h => by
    rw [List.lookup_cons] at h
    by_cases hk : k = k'
    · subst hk
      simp at h
      subst h
      exact List.mem_cons_self
    · have : (k == k') = false := by simp [hk]
      rw [this] at h
      exact List.mem_cons_of_mem _ (lookup_in l k a h)
theorem ins_chk {M pc : Nat} {i : Instr} (hi : insM M pc = some i) : chk M (pc, i) = true := List.all_eq_true.mp (dk_all M) _ (lookup_in _ _ _ hi)
theorem ins_dec {M pc : Nat} {i : Instr} (hi : insM M pc = some i) : dec (cod M) pc i := by
  have h := ins_chk hi
  unfold chk at h
  rw [Bool.and_eq_true] at h
  have h1 := h.1
  split at h1
  · next i' len hd =>
    simp only [Bool.and_eq_true, Bool.or_eq_true, decide_eq_true_eq] at h1
    obtain ⟨e1, e2⟩ := h1
    subst e1
    exact ⟨len, hd, fun hs => by rcases e2 with e2 | e2 <;> first | (rw [hs] at e2; cases e2) | exact e2⟩
  · cases h1
theorem ins_ok {M pc : Nat} {i : Instr} (hi : insM M pc = some i) : okI M pc i = true := by
  have h := ins_chk hi
  unfold chk at h
  rw [Bool.and_eq_true] at h
  exact h.2
theorem ins_lt {M pc : Nat} {i : Instr} (hi : insM M pc = some i) : M < 98 := by
  apply Classical.byContradiction
  intro hn
  have : insL.getD M [] = [] := by
    rw [List.getD_eq_getElem?_getD, List.getElem?_eq_none_iff.mpr (by show insL.length ≤ M; have : insL.length = 98 := rfl; omega)]
    rfl
  unfold insM at hi
  rw [this] at hi
  cases hi
theorem mx_le' : ∀ M, M < 98 → mx M ≤ 40 := by decide +kernel
theorem mx_le {M : Nat} (hM : M < nM) : mx M ≤ 40 := mx_le' M (by have : nM = 97 := rfl; omega)
theorem nm_plain' : ∀ M, M < nM → plainFor (nmM M) = true := by decide +kernel
theorem nm_plain {M : Nat} (hM : M < nM) : plainFor (nmM M) = true := nm_plain' M hM
set_option maxRecDepth 100000 in
theorem code_in {M : Nat} (hM : M < nM) : Cond.code (nmM M) (cod M) (mx M) (rtM M) ∈ TB := by
  match M, hM with
  | 0, _ => exact List.mem_of_getElem? (i := 71) rfl
  | 1, _ => exact List.mem_of_getElem? (i := 78) rfl
  | 2, _ => exact List.mem_of_getElem? (i := 83) rfl
  | 3, _ => exact List.mem_of_getElem? (i := 116) rfl
  | 4, _ => exact List.mem_of_getElem? (i := 125) rfl
  | 5, _ => exact List.mem_of_getElem? (i := 167) rfl
  | 6, _ => exact List.mem_of_getElem? (i := 170) rfl
  | 7, _ => exact List.mem_of_getElem? (i := 173) rfl
  | 8, _ => exact List.mem_of_getElem? (i := 176) rfl
  | 9, _ => exact List.mem_of_getElem? (i := 179) rfl
  | 10, _ => exact List.mem_of_getElem? (i := 230) rfl
  | 11, _ => exact List.mem_of_getElem? (i := 235) rfl
  | 12, _ => exact List.mem_of_getElem? (i := 238) rfl
  | 13, _ => exact List.mem_of_getElem? (i := 240) rfl
  | 14, _ => exact List.mem_of_getElem? (i := 246) rfl
  | 15, _ => exact List.mem_of_getElem? (i := 249) rfl
  | 16, _ => exact List.mem_of_getElem? (i := 252) rfl
  | 17, _ => exact List.mem_of_getElem? (i := 254) rfl
  | 18, _ => exact List.mem_of_getElem? (i := 257) rfl
  | 19, _ => exact List.mem_of_getElem? (i := 260) rfl
  | 20, _ => exact List.mem_of_getElem? (i := 263) rfl
  | 21, _ => exact List.mem_of_getElem? (i := 265) rfl
  | 22, _ => exact List.mem_of_getElem? (i := 268) rfl
  | 23, _ => exact List.mem_of_getElem? (i := 270) rfl
  | 24, _ => exact List.mem_of_getElem? (i := 275) rfl
  | 25, _ => exact List.mem_of_getElem? (i := 277) rfl
  | 26, _ => exact List.mem_of_getElem? (i := 281) rfl
  | 27, _ => exact List.mem_of_getElem? (i := 285) rfl
  | 28, _ => exact List.mem_of_getElem? (i := 289) rfl
  | 29, _ => exact List.mem_of_getElem? (i := 291) rfl
  | 30, _ => exact List.mem_of_getElem? (i := 294) rfl
  | 31, _ => exact List.mem_of_getElem? (i := 296) rfl
  | 32, _ => exact List.mem_of_getElem? (i := 298) rfl
  | 33, _ => exact List.mem_of_getElem? (i := 300) rfl
  | 34, _ => exact List.mem_of_getElem? (i := 303) rfl
  | 35, _ => exact List.mem_of_getElem? (i := 306) rfl
  | 36, _ => exact List.mem_of_getElem? (i := 309) rfl
  | 37, _ => exact List.mem_of_getElem? (i := 312) rfl
  | 38, _ => exact List.mem_of_getElem? (i := 314) rfl
  | 39, _ => exact List.mem_of_getElem? (i := 317) rfl
  | 40, _ => exact List.mem_of_getElem? (i := 320) rfl
  | 41, _ => exact List.mem_of_getElem? (i := 323) rfl
  | 42, _ => exact List.mem_of_getElem? (i := 326) rfl
  | 43, _ => exact List.mem_of_getElem? (i := 328) rfl
  | 44, _ => exact List.mem_of_getElem? (i := 330) rfl
  | 45, _ => exact List.mem_of_getElem? (i := 333) rfl
  | 46, _ => exact List.mem_of_getElem? (i := 338) rfl
  | 47, _ => exact List.mem_of_getElem? (i := 343) rfl
  | 48, _ => exact List.mem_of_getElem? (i := 345) rfl
  | 49, _ => exact List.mem_of_getElem? (i := 348) rfl
  | 50, _ => exact List.mem_of_getElem? (i := 351) rfl
  | 51, _ => exact List.mem_of_getElem? (i := 354) rfl
  | 52, _ => exact List.mem_of_getElem? (i := 357) rfl
  | 53, _ => exact List.mem_of_getElem? (i := 360) rfl
  | 54, _ => exact List.mem_of_getElem? (i := 362) rfl
  | 55, _ => exact List.mem_of_getElem? (i := 365) rfl
  | 56, _ => exact List.mem_of_getElem? (i := 368) rfl
  | 57, _ => exact List.mem_of_getElem? (i := 370) rfl
  | 58, _ => exact List.mem_of_getElem? (i := 373) rfl
  | 59, _ => exact List.mem_of_getElem? (i := 377) rfl
  | 60, _ => exact List.mem_of_getElem? (i := 379) rfl
  | 61, _ => exact List.mem_of_getElem? (i := 384) rfl
  | 62, _ => exact List.mem_of_getElem? (i := 388) rfl
  | 63, _ => exact List.mem_of_getElem? (i := 392) rfl
  | 64, _ => exact List.mem_of_getElem? (i := 394) rfl
  | 65, _ => exact List.mem_of_getElem? (i := 400) rfl
  | 66, _ => exact List.mem_of_getElem? (i := 453) rfl
  | 67, _ => exact List.mem_of_getElem? (i := 456) rfl
  | 68, _ => exact List.mem_of_getElem? (i := 459) rfl
  | 69, _ => exact List.mem_of_getElem? (i := 462) rfl
  | 70, _ => exact List.mem_of_getElem? (i := 465) rfl
  | 71, _ => exact List.mem_of_getElem? (i := 469) rfl
  | 72, _ => exact List.mem_of_getElem? (i := 474) rfl
  | 73, _ => exact List.mem_of_getElem? (i := 477) rfl
  | 74, _ => exact List.mem_of_getElem? (i := 480) rfl
  | 75, _ => exact List.mem_of_getElem? (i := 484) rfl
  | 76, _ => exact List.mem_of_getElem? (i := 488) rfl
  | 77, _ => exact List.mem_of_getElem? (i := 492) rfl
  | 78, _ => exact List.mem_of_getElem? (i := 496) rfl
  | 79, _ => exact List.mem_of_getElem? (i := 499) rfl
  | 80, _ => exact List.mem_of_getElem? (i := 502) rfl
  | 81, _ => exact List.mem_of_getElem? (i := 505) rfl
  | 82, _ => exact List.mem_of_getElem? (i := 508) rfl
  | 83, _ => exact List.mem_of_getElem? (i := 511) rfl
  | 84, _ => exact List.mem_of_getElem? (i := 514) rfl
  | 85, _ => exact List.mem_of_getElem? (i := 517) rfl
  | 86, _ => exact List.mem_of_getElem? (i := 521) rfl
  | 87, _ => exact List.mem_of_getElem? (i := 524) rfl
  | 88, _ => exact List.mem_of_getElem? (i := 527) rfl
  | 89, _ => exact List.mem_of_getElem? (i := 530) rfl
  | 90, _ => exact List.mem_of_getElem? (i := 533) rfl
  | 91, _ => exact List.mem_of_getElem? (i := 536) rfl
  | 92, _ => exact List.mem_of_getElem? (i := 540) rfl
  | 93, _ => exact List.mem_of_getElem? (i := 543) rfl
  | 94, _ => exact List.mem_of_getElem? (i := 548) rfl
  | 95, _ => exact List.mem_of_getElem? (i := 552) rfl
  | 96, _ => exact List.mem_of_getElem? (i := 556) rfl
  | k + 97, h => exact absurd h (by show ¬ k + 97 < 97; omega)
end
section
def mK (dC : Nat → ClassId) (dI : Nat → Nat → Nat) (dA : Nat → ClassId) (s : State) : Prop := va_K (dC, dI) clT [] s ∧ (∀ t ∈ srtL, ArrOfT s (dA t) (tyT t) ∧ va_RA s (dA t) (tyT t)) ∧ (∀ w ∈ NW, va_Nw w s) ∧ (∀ C ∈ AOL, va_AO C s)
/-- the one String constant, and what String's methods read of statics: below B, where nothing is written -/
def strK (B : Nat) (s : State) : Prop := ∃ (adK adV : Nat → Nat), vk_R "FlowEquations" 161 "+-*<=&!?PFWC" (adK 0) s ∧ vk_S 1 [12] [[43, 45, 42, 60, 61, 38, 33, 63, 80, 70, 87, 67]] adK adV (fun q => B ≤ q) s s.heap ∧ va_Z "java/lang/String" "COMPACT_STRINGS" "Z" (.int 1) (fun q => B ≤ q) s s.heap
theorem strK.moved {B : Nat} {u U : State} (hW : u.WarmedH U.vm) (hq : ∀ a : Nat, a < u.heap.size → ¬ B ≤ a → U.heap[a]? = u.heap[a]?) (h : strK B u) : strK B U := by
  obtain ⟨adK, adV, h1, h2, h3⟩ := h
  exact ⟨adK, adV, h1.warm hW, (h2.moved hW.alike).kept hq, (h3.moved hW.alike).kept hq⟩
theorem strK.same {B : Nat} {u U : State} (hv : U.vm = u.vm) (hh : U.heap = u.heap) (h : strK B u) : strK B U := by
  obtain ⟨adK, adV, h1, h2, h3⟩ := h
  have ha : u.vm.Alike U.vm := hv ▸ Vm.Alike.refl u.vm
  exact ⟨adK, adV, h1.same hv, by rw [hh]; exact h2.moved ha, by rw [hh]; exact h3.moved ha⟩
theorem srt_0 : 0 ∈ srtL := by decide
theorem srt_1 : 1 ∈ srtL := by decide
theorem srt_ref {s : State} {dA : Nat → ClassId} {t : Nat} (h : ArrOfT s (dA t) (tyT t)) (ht : t ∈ srtL) (h10 : 10 ≤ t) : ∃ C, ArrOfT s (dA t) (.object C) := by
  have : t = 12 := by simp [srtL] at ht; omega
  subst this
  exact ⟨_, h⟩
theorem srt_RA {s : State} {dA : Nat → ClassId} {t : Nat} {r : vw_C} (h : va_RA s (dA t) (tyT t)) (ht : t ∈ srtL) (h10 : 10 ≤ t) (hr : clT[t - 10]? = some r) : va_RA s (dA t) (.object r.1) := by
  have : t = 12 := by simp [srtL] at ht; omega
  subst this
  cases hr
  exact h
section MSIM
variable {p : Program} {l : Launch} {e : Env} {R : Room} {s : State} {m : MethodId} {args : Array Value} {below : List Frame} {meth : Method} {c : Code} {H : Heap} {locs : List Loc} {cells slots : Nat} {Q : State → Prop}
variable {b B : Nat} {dC : Nat → ClassId} {dI : Nat → Nat → Nat} {dA : Nat → ClassId}
abbrev RHm (b B : Nat) (dC : Nat → ClassId) (dI : Nat → Nat → Nat) (dA : Nat → ClassId) (s : State) (h : MH) (H : Heap) : Prop := RH b B dC dI dA clT srtL s h H
theorem mK.moved {u U : State} (hW : u.WarmedH U.vm) (h : mK dC dI dA u) : mK dC dI dA U := by
  obtain ⟨h1, h2, h3, h4⟩ := h
  exact ⟨h1.moved hW.alike, fun t ht => ⟨arrOfT_moved hW.alike (h2 t ht).1, (h2 t ht).2.moved hW.alike⟩, fun w hw => NW_warm hW hw (h3 w hw), fun C hC => (h4 C hC).moved hW.alike⟩
def mQ (b B : Nat) (dC : Nat → ClassId) (dI : Nat → Nat → Nat) (dA : Nat → ClassId) (v : Option Value) (h' : MH) : Array Value → State → Outcome → State → Prop := fun _ st oc t => (oc = .returned (v.map (up b B)) ∧ RHm b B dC dI dA t h' t.heap) ∧ va_F (fun q => B ≤ q) st t
theorem w_call {pc : Nat} {ls : Array Slot} {rest st0 : List Value} {a : Array Value} {mc ms : Nat} {v : Option Value} {h' : MH} (hr : va_Run p l e R s m args below meth c H locs cells slots mc ms (F0 m pc ls st0) rest (mQ b B dC dI dA v h' a) (fun q => B ≤ q)) (hS : va_S (fun q => B ≤ q) s.heap H locs)
    (kk : ∀ (H1 : Heap) (locs1 : List Loc), RHm b B dC dI dA s h' H1 → va_S (fun q => B ≤ q) s.heap H1 locs1 → W p l e R s m args below meth c H1 locs1 (cells + mc) (slots + ms) Q (F0 m (pc + 3) ls ((v.map (up b B)).toList ++ rest))) : W p l e R s m args below meth c H locs cells slots Q (F0 m pc ls st0) := by
  intro T hT X
  obtain ⟨v', st₀, t, T', L, h0, X', hL, e1, e2, ⟨⟨hv, hRH⟩, hz, hk⟩, st⟩ := hr T hT X
  cases hv
  rw [h0] at hz hk
  have hRH' : RHm b B dC dI dA s h' T'.heap := by
    rw [e1]
    refine RH.moved ?_ hRH
    rw [← e2]
    exact X'.warmed.alike.symm
  obtain ⟨t2, a1, b1⟩ := kk T'.heap (locs ++ L) hRH' ⟨Nat.le_trans hS.1 (by rw [e1]; exact hz), fun q h1 h2 => by rw [e1, hk q (Nat.lt_of_lt_of_le h1 hS.1) h2]; exact hS.2.1 q h1 h2, fun q hq => by
      rcases List.mem_append.mp hq with h | h
      · exact hS.2.2 q h
      · exact hL q h⟩ T' rfl X'
  exact ⟨t2, st t2 a1, b1⟩
def mCt (B : Nat) (dC : Nat → ClassId) (dI : Nat → Nat → Nat) (dA : Nat → ClassId) (p : Program) (s : State) (m : MethodId) (args : Array Value) (meth : Method) (c : Code) (M : Nat) : Prop :=
  p.tables.exec = Jvm.exec ∧ c.code = cod M ∧ c.maxLocals = mx M ∧ s.vm.findClass (nmM M).cls = some m.cls ∧ (∀ w ∈ TB, w.before args s = true) ∧ meth.name = (nmM M).name ∧ mK dC dI dA s ∧ strK B s
/-- the steps that read or write cells, or make some -/
theorem sim_H {M pc pc' z0 z1 : Nat} {i : Instr} {lo lo' : ML} {ls : Array Slot} {st st' : List Value} {h h' : MH} (C : mCt B dC dI dA p s m args meth c M) (hR : RHm b B dC dI dA s h H) (hS : va_S (fun q => B ≤ q) s.heap H locs) (hd : dec (cod M) pc i) (hok : okI M pc i = true) (hs : stpH M i pc lo st h = some (.inl ((pc', lo', st'), h'))) (hz0 : cells + z0 = h.1) (hz1 : slots + z1 = h.2.1) (hr0 : h'.1 ≤ R.cells + z0) (hr1 : h'.2.1 ≤ R.slots + z1)
    (kk : ∀ (H1 : Heap) (locs1 : List Loc) (cells1 slots1 : Nat), RHm b B dC dI dA s h' H1 → va_S (fun q => B ≤ q) s.heap H1 locs1 → cells1 + z0 = h'.1 → slots1 + z1 = h'.2.1 → W p l e R s m args below meth c H1 locs1 cells1 slots1 Q (F0 m pc' ls (st'.map (up b B)))) :
    lo' = lo ∧ W p l e R s m args below meth c H locs cells slots Q (F0 m pc ls (st.map (up b B))) := by
  obtain ⟨hx, hb, hml, hown, hts, hnm, ⟨hK, hAr, hNW, hAO⟩, -⟩ := C
  obtain ⟨len, hdg, hl⟩ := hd
  unfold stpH at hs
  split at hs
  · -- ldc
    have e1 : len = 2 := hl rfl
    subst e1
    cases hs
    refine ⟨rfl, ?_⟩
    simp only [okI] at hok
    split at hok
    · exact lv_ldc hx hb hown (hts _ (wat_in hok)) hdg (kk H locs cells slots hR hS hz0 hz1)
    · cases hok
  · -- ldc_w
    have e1 : len = 3 := hl rfl
    subst e1
    cases hs
    refine ⟨rfl, ?_⟩
    simp only [okI] at hok
    split at hok
    · exact lv_ldcw hx hb hown (hts _ (wat_in hok)) hdg (kk H locs cells slots hR hS hz0 hz1)
    · cases hok
  · -- ldc2_w
    have e1 : len = 3 := hl rfl
    subst e1
    cases hs
    refine ⟨rfl, ?_⟩
    simp only [okI] at hok
    split at hok
    · exact lv_ldc2 hx hb hown (hts _ (wat_in hok)) hdg (kk H locs cells slots hR hS hz0 hz1)
    · cases hok
  · -- getfield
    have e1 : len = 3 := hl rfl
    subst e1
    simp only [okI] at hok
    unfold gfS at hs
    unfold okF at hok
    split at hs
    · next ci k tl hq =>
      rw [hq] at hok
      split at hok
      · next ci' k' md j tl' hq' =>
        cases hq'
        split at hs
        · split at hs
          · next v hv =>
            cases hs
            refine ⟨rfl, ?_⟩
            split at hok
            · next C T N hcl =>
              simp only [Bool.and_eq_true, decide_eq_true_eq] at hok
              obtain ⟨hk, hw⟩ := hok
              refine w_get (host := hostM M) hx hb hts hK hR (clT_ok hcl) hk hown ?_ hv hdg (kk H locs cells slots hR hS hz0 hz1)
              split at hw
              · exact Or.inl (hts _ (wat_in hw))
              · exact Or.inr (va_Nw.use rfl (hNW _ (nwat_in hw)))
            · cases hok
          · cases hs
        · cases hs
      · cases hok
    · cases hs
  · -- putfield
    have e1 : len = 3 := hl rfl
    subst e1
    simp only [okI] at hok
    unfold pfS at hs
    unfold okP at hok
    split at hs
    · next ci k tl hq =>
      rw [hq] at hok
      split at hok
      · next ci' k' md j tl' hq' =>
        cases hq'
        split at hs
        · split at hs
          · next h2 hv =>
            cases hs
            refine ⟨rfl, ?_⟩
            split at hok
            · next C T N hcl =>
              simp only [Bool.and_eq_true, decide_eq_true_eq] at hok
              obtain ⟨hk, hw⟩ := hok
              have e9 := fputh_size hv
              refine w_put (host := hostM M) hx hb hts hK hR hS (clT_ok hcl) hk hown ?_ hv hdg (fun H1 locs1 a1 a2 => kk H1 locs1 cells slots a1 a2 (by rw [e9.1]; exact hz0) (by rw [e9.2]; exact hz1))
              split at hw
              · simp only [Bool.and_eq_true, decide_eq_true_eq] at hw
                exact Or.inl ⟨hw.1, Or.inl (hts _ (wat_in hw.2))⟩
              · simp only [Bool.and_eq_true, decide_eq_true_eq] at hw
                exact Or.inl ⟨hw.1, Or.inr (va_Nw.use rfl (hNW _ (nwat_in hw.2)))⟩
              · simp only [Bool.and_eq_true, decide_eq_true_eq] at hw
                exact Or.inr ⟨hw.1, hnm.trans hw.2.1, hw.2.2.1, hts _ (wat_in hw.2.2.2)⟩
            · cases hok
          · cases hs
        · cases hs
      · cases hok
    · cases hs
  · -- iaload
    have e1 : len = 1 := hl rfl
    subst e1
    unfold ialS at hs
    split at hs
    · split at hs
      · next x hv =>
        cases hs
        exact ⟨rfl, w_iald hx hb hR (hAr 0 srt_0).1 hv hdg (kk H locs cells slots hR hS hz0 hz1)⟩
      · cases hs
    · cases hs
  · -- baload
    have e1 : len = 1 := hl rfl
    subst e1
    unfold ialS at hs
    split at hs
    · split at hs
      · next x hv =>
        cases hs
        exact ⟨rfl, w_zald hx hb hR (hAr 1 srt_1).1 hv hdg (kk H locs cells slots hR hS hz0 hz1)⟩
      · cases hs
    · cases hs
  · -- iastore
    have e1 : len = 1 := hl rfl
    subst e1
    unfold iasS at hs
    split at hs
    · split at hs
      · cases hs
      · split at hs
        · next h2 hv =>
          cases hs
          have e9 := aputi_size hv
          exact ⟨rfl, w_iast hx hb hR hS (hAr 0 srt_0).1 hv hdg (fun H1 locs1 a1 a2 => kk H1 locs1 cells slots a1 a2 (by rw [e9.1]; exact hz0) (by rw [e9.2]; exact hz1))⟩
        · cases hs
    · cases hs
  · -- bastore
    have e1 : len = 1 := hl rfl
    subst e1
    unfold iasS at hs
    split at hs
    · split at hs
      · cases hs
      · next hnr =>
        split at hs
        · next h2 hv =>
          cases hs
          have e9 := aputi_size hv
          exact ⟨rfl, w_zast hx hb hR hS (hAr 1 srt_1).1 (congrArg Value.int (Classical.byContradiction fun q => hnr ⟨rfl, q⟩)) hv hdg (fun H1 locs1 a1 a2 => kk H1 locs1 cells slots a1 a2 (by rw [e9.1]; exact hz0) (by rw [e9.2]; exact hz1))⟩
        · cases hs
    · cases hs
  · -- aaload
    have e1 : len = 1 := hl rfl
    subst e1
    unfold aalS at hs
    split at hs
    · split at hs
      · next x hv =>
        cases hs
        exact ⟨rfl, w_aald hx hb hR (fun t ht h10 => srt_ref (hAr t ht).1 ht h10) hv hdg (kk H locs cells slots hR hS hz0 hz1)⟩
      · cases hs
    · cases hs
  · -- aastore
    have e1 : len = 1 := hl rfl
    subst e1
    unfold aasS at hs
    split at hs
    · split at hs
      · next h2 hv =>
        cases hs
        have e9 := aputr_size hv
        exact ⟨rfl, w_aast hx hb hK hR hS (fun t r ht h10 hr => srt_RA (hAr t ht).2 ht h10 hr) hv hdg (fun H1 locs1 a1 a2 => kk H1 locs1 cells slots a1 a2 (by rw [e9.1]; exact hz0) (by rw [e9.2]; exact hz1))⟩
      · cases hs
    · cases hs
  · -- arraylength
    have e1 : len = 1 := hl rfl
    subst e1
    unfold alnS at hs
    split at hs
    · split at hs
      · next x hv =>
        cases hs
        exact ⟨rfl, w_alen hx hb hR (fun t ht => ⟨_, (hAr t ht).1⟩) hv hdg (kk H locs cells slots hR hS hz0 hz1)⟩
      · cases hs
    · cases hs
  · -- newarray
    next ty =>
    have e1 : len = 2 := hl rfl
    subst e1
    simp only [okI] at hok
    unfold nwaS at hs
    split at hs
    · split at hs
      · next n r hc =>
        cases hs
        refine ⟨rfl, ?_⟩
        split at hok
        · next j tl hq =>
          simp only [Bool.and_eq_true, decide_eq_true_eq] at hok
          obtain ⟨hw, hsl, hty, hcs⟩ := hok
          have hA := (hAr _ hsl).2
          rw [hty] at hA
          have hr0' : h.1 + 1 ≤ R.cells + z0 := hr0
          have hr1' : h.2.1 + n.toNatClampNeg ≤ R.slots + z1 := hr1
          refine w_newa hx hb hR hS (a0 := azero ty) (t := atag ty) (hts _ (wat_in hw)) hsl ?_ ?_ hc.1 rfl ?_ (by omega) (by omega) hdg (fun H1 a1 a2 => kk H1 locs (cells + 1) _ a1 a2 (by show cells + 1 + z0 = h.1 + 1; omega) (by show slots + n.toNatClampNeg + z1 = h.2.1 + n.toNatClampNeg; omega))
          · rcases hcs with rfl | rfl <;> exact hA
          · intro cA
            rcases hcs with rfl | rfl <;> rfl
          · have := hc.2.2
            rcases hcs with rfl | rfl <;> simp [newarray.typeOf, componentBytes] <;> omega
        · cases hok
      · cases hs
    · cases hs
  · -- anewarray
    have e1 : len = 3 := hl rfl
    subst e1
    simp only [okI] at hok
    unfold nwqS at hs
    unfold okQ at hok
    split at hs
    · next ci tl hq =>
      rw [hq] at hok
      split at hok
      · next ci' j1 tl' hq' =>
        cases hq'
        split at hs
        · split at hs
          · next n r hc =>
            cases hs
            refine ⟨rfl, ?_⟩
            split at hok
            · next C T N hcl =>
              simp only [Bool.and_eq_true, decide_eq_true_eq] at hok
              obtain ⟨hw, hsl, hty, hao⟩ := hok
              have hA := (hAr _ hsl).2
              rw [hty] at hA
              obtain ⟨kA, comp, k1, k2, k3, k4⟩ := hA
              have hr0' : h.1 + 1 ≤ R.cells + z0 := hr0
              have hr1' : h.2.1 + n.toNatClampNeg ≤ R.slots + z1 := hr1
              exact w_newq hx hb hR hS hown (hts _ (wat_in hw)) (hAO _ hao) hsl k4 hc.1 rfl (by omega) (by omega) (by omega) hdg (fun H1 a1 a2 => kk H1 locs (cells + 1) _ a1 a2 (by show cells + 1 + z0 = h.1 + 1; omega) (by show slots + n.toNatClampNeg + z1 = h.2.1 + n.toNatClampNeg; omega))
            · cases hok
          · cases hs
        · cases hs
      · cases hok
    · cases hs
  · -- new
    have e1 : len = 3 := hl rfl
    subst e1
    simp only [okI] at hok
    unfold nwS at hs
    unfold okN at hok
    split at hs
    · next ci tl hq =>
      rw [hq] at hok
      split at hok
      · next ci' j1 j2 j3 tl' hq' =>
        cases hq'
        cases hs
        refine ⟨rfl, ?_⟩
        split at hok
        · next C T N hcl =>
          simp only [Bool.and_eq_true, decide_eq_true_eq] at hok
          obtain ⟨rfl, w1, w2, w3⟩ := hok
          have hr0' : h.1 + 1 ≤ R.cells + z0 := hr0
          have hr1' : h.2.1 + nF ci ≤ R.slots + z1 := hr1
          exact w_new hx hb hts hK hR hS (clT_ok hcl) hown (hts _ (wat_in w1)) (hts _ (wat_in w2)) (hts _ (wat_in w3)) (by omega) (by omega) hdg (fun H1 a1 a2 => kk H1 locs (cells + 1) _ a1 a2 (by show cells + 1 + z0 = h.1 + 1; omega) (by show slots + nF ci + z1 = h.2.1 + nF ci; omega))
        · cases hok
      · cases hok
    · cases hs
  · unfold invS at hs
    split at hs
    · split at hs <;> cases hs
    · cases hs
  · unfold invS at hs
    split at hs
    · split at hs <;> cases hs
    · cases hs
  · unfold invS at hs
    split at hs
    · split at hs <;> cases hs
    · cases hs
  · unfold iretS at hs
    split at hs
    · split at hs <;> cases hs
    · cases hs
  · unfold lretS at hs
    split at hs
    · split at hs <;> cases hs
    · cases hs
  · unfold aretS at hs
    split at hs
    · split at hs <;> cases hs
    · cases hs
  · unfold vretS at hs
    split at hs
    · split at hs <;> cases hs
    · cases hs
  · cases hs
/-! entry -/
theorem entL_len : ∀ as : List Value, (entL as).length = cats as
  | [] => rfl
  | v :: vs => by
    have ih := entL_len vs
    unfold cats at ih ⊢
    rcases lv_cat v with hv | hv <;> simp [entL, hv, ih] <;> omega
theorem lis1_cons (b B : Nat) (x : Option Value) (L : ML) (i : Nat) : lis1 b B (x :: L) (i + 1) = (lis1 b B L i).map (fun q => (q.1 + 1, q.2)) := by
  unfold lis1
  simp only [List.getElem?_cons_succ]
  generalize L[i]? = y
  rcases y with _ | _ | v
  · rfl
  · rfl
  · cases v <;> first | rfl | (by_cases hz : L[i + 1]? = some mSec <;> simp [hz])
theorem lis1_ent (b B r : Nat) : ∀ (as : List Value) (k i : Nat) (w : Value), lis1 b B (entL as ++ List.replicate r none) i = some (i, w) → (k + i, w) ∈ lv_args k (as.map (up b B)) := by
  intro as
  induction as with
  | nil =>
    intro k i w h
    exfalso
    unfold lis1 at h
    simp only [entL, List.nil_append, List.getElem?_replicate] at h
    by_cases hi : i < r
    · rw [if_pos hi] at h; cases h
    · rw [if_neg hi] at h; cases h
  | cons v vs ih =>
    intro k i w h
    rcases lv_cat v with hv | hv
    · have e1 : entL (v :: vs) = some v :: entL vs := by simp [entL, hv]
      rw [e1, List.cons_append] at h
      have e2 : lv_args k ((v :: vs).map (up b B)) = (k, up b B v) :: lv_args (k + 1) (vs.map (up b B)) := by simp [lv_args, up_cat, hv]
      rw [e2]
      cases i with
      | zero =>
        unfold lis1 at h
        simp only [List.getElem?_cons_zero] at h
        cases v <;> simp [Value.category] at hv h
        · rw [← h]; exact List.mem_cons_self
        · rw [← h]; exact List.mem_cons_self
      | succ j =>
        rw [lis1_cons] at h
        cases hj : lis1 b B (entL vs ++ List.replicate r none) j with
        | none => rw [hj] at h; cases h
        | some q =>
          have hq := lis1_fst hj
          rw [hj] at h
          obtain ⟨q1, q2⟩ := q
          cases hq
          simp at h
          subst h
          have := ih (k + 1) _ _ hj
          rw [show k + (q1 + 1) = k + 1 + q1 by omega]
          exact List.mem_cons_of_mem _ this
    · have e1 : entL (v :: vs) = some v :: mSec :: entL vs := by simp [entL, hv]
      rw [e1, List.cons_append, List.cons_append] at h
      have e2 : lv_args k ((v :: vs).map (up b B)) = (k, up b B v) :: lv_args (k + 2) (vs.map (up b B)) := by simp [lv_args, up_cat, hv]
      rw [e2]
      match i, h with
      | 0, h =>
        unfold lis1 at h
        simp only [List.getElem?_cons_zero, List.getElem?_cons_succ] at h
        cases v <;> simp [Value.category] at hv h
        rw [← h]; exact List.mem_cons_self
      | 1, h =>
        rw [lis1_cons] at h
        unfold lis1 at h
        simp only [List.getElem?_cons_zero] at h
        cases h
      | j + 2, h =>
        rw [lis1_cons, lis1_cons] at h
        cases hj : lis1 b B (entL vs ++ List.replicate r none) j with
        | none => rw [hj] at h; cases h
        | some q =>
          have hq := lis1_fst hj
          rw [hj] at h
          obtain ⟨q1, q2⟩ := q
          cases hq
          simp at h
          subst h
          have := ih (k + 2) _ _ hj
          rw [show k + (q1 + 2) = k + 2 + q1 by omega]
          exact List.mem_cons_of_mem _ this
theorem RL_ent {b B n : Nat} {as : List Value} {ls : Array Slot} (hn : cats as ≤ n) (h : lv_has ls n (lv_args 0 (as.map (up b B)))) : RL b B (ent n as) ls := by
  have hlen : n = (ent n as).length := by
    unfold ent
    rw [List.length_append, List.length_replicate, entL_len]
    omega
  refine RL.sub h hlen (fun q hq => ?_)
  obtain ⟨i, hi, h1⟩ := lis_mem.mp hq
  have hf := lis1_fst h1
  obtain ⟨q1, q2⟩ := q
  cases hf
  have := lis1_ent b B _ as 0 _ _ h1
  rw [Nat.zero_add] at this
  exact this
theorem ent_len {n : Nat} {as : List Value} (hn : cats as ≤ n) : (ent n as).length = n := by
  unfold ent
  rw [List.length_append, List.length_replicate, entL_len]
  omega
theorem lg_sl_len (b B : Nat) : ∀ as : List Value, (lg_sl (as.map (up b B))).length = cats as
  | [] => rfl
  | v :: vs => by
    have ih := lg_sl_len b B vs
    unfold lg_sl cats at ih ⊢
    rcases lv_cat v with hv | hv <;> simp [up_cat, hv, ih] <;> omega
/-! what a step keeps -/
theorem stpP_keep {i : Instr} {pc : Nat} {lo : ML} {st : List Value} {h : MH} {r : SR} (hs : stpP i pc lo st h = some r) : ∃ (pc' : Nat) (lo' : ML) (st' : List Value), r = .inl ((pc', lo', st'), h) ∧ lo'.length = lo.length := by
  unfold stpP at hs
  split at hs <;> try simp only [nx, jm, ldI, ldJ, ldA, stI, stJ, stA, inc, ar1, ar2, al2, als, br1, br2, swL, swT, du1, dux1, dux2, du2, po1, i2lS, l2iS, lcmpS, dvS] at hs
  all_goals (repeat' split at hs)
  all_goals first
    | (cases hs; done)
    | (cases hs; exact ⟨_, _, _, rfl, by simp⟩)
theorem stpH_keep {M : Nat} {i : Instr} {pc : Nat} {lo : ML} {st : List Value} {h h' : MH} {f : MF} (hs : stpH M i pc lo st h = some (.inl (f, h'))) : f.2.1 = lo ∧ h.1 ≤ h'.1 ∧ h.2.1 ≤ h'.2.1 := by
  unfold stpH at hs
  split at hs
  · cases hs; exact ⟨rfl, Nat.le_refl _, Nat.le_refl _⟩
  · cases hs; exact ⟨rfl, Nat.le_refl _, Nat.le_refl _⟩
  · cases hs; exact ⟨rfl, Nat.le_refl _, Nat.le_refl _⟩
  · unfold gfS at hs
    repeat' split at hs
    all_goals first
      | (cases hs; done)
      | (cases hs; exact ⟨rfl, Nat.le_refl _, Nat.le_refl _⟩)
  · unfold pfS at hs
    split at hs
    · split at hs
      · split at hs
        · next hv => cases hs; have := fputh_size hv; exact ⟨rfl, by omega, by omega⟩
        · cases hs
      · cases hs
    · cases hs
  · unfold ialS at hs
    repeat' split at hs
    all_goals first
      | (cases hs; done)
      | (cases hs; exact ⟨rfl, Nat.le_refl _, Nat.le_refl _⟩)
  · unfold ialS at hs
    repeat' split at hs
    all_goals first
      | (cases hs; done)
      | (cases hs; exact ⟨rfl, Nat.le_refl _, Nat.le_refl _⟩)
  · unfold iasS at hs
    split at hs
    · split at hs
      · cases hs
      · split at hs
        · next hv => cases hs; have := aputi_size hv; exact ⟨rfl, by omega, by omega⟩
        · cases hs
    · cases hs
  · unfold iasS at hs
    split at hs
    · split at hs
      · cases hs
      · split at hs
        · next hv => cases hs; have := aputi_size hv; exact ⟨rfl, by omega, by omega⟩
        · cases hs
    · cases hs
  · unfold aalS at hs
    repeat' split at hs
    all_goals first
      | (cases hs; done)
      | (cases hs; exact ⟨rfl, Nat.le_refl _, Nat.le_refl _⟩)
  · unfold aasS at hs
    split at hs
    · split at hs
      · next hv => cases hs; have := aputr_size hv; exact ⟨rfl, by omega, by omega⟩
      · cases hs
    · cases hs
  · unfold alnS at hs
    repeat' split at hs
    all_goals first
      | (cases hs; done)
      | (cases hs; exact ⟨rfl, Nat.le_refl _, Nat.le_refl _⟩)
  · unfold nwaS at hs
    split at hs
    · split at hs
      · cases hs; exact ⟨rfl, Nat.le_add_right _ _, Nat.le_add_right _ _⟩
      · cases hs
    · cases hs
  · unfold nwqS at hs
    split at hs
    · split at hs
      · split at hs
        · cases hs; exact ⟨rfl, Nat.le_add_right _ _, Nat.le_add_right _ _⟩
        · cases hs
      · cases hs
    · cases hs
  · unfold nwS at hs
    split at hs
    · cases hs; exact ⟨rfl, Nat.le_add_right _ _, Nat.le_add_right _ _⟩
    · cases hs
  · unfold invS at hs
    split at hs
    · split at hs <;> cases hs
    · cases hs
  · unfold invS at hs
    split at hs
    · split at hs <;> cases hs
    · cases hs
  · unfold invS at hs
    split at hs
    · split at hs <;> cases hs
    · cases hs
  · unfold iretS at hs
    split at hs
    · split at hs <;> cases hs
    · cases hs
  · unfold lretS at hs
    split at hs
    · split at hs <;> cases hs
    · cases hs
  · unfold aretS at hs
    split at hs
    · split at hs <;> cases hs
    · cases hs
  · unfold vretS at hs
    split at hs
    · split at hs <;> cases hs
    · cases hs
  · cases hs
theorem stp_ins {M pc : Nat} {lo : ML} {st : List Value} {h : MH} {r : SR} (hs : stp M pc lo st h = some r) : ∃ i, insM M pc = some i ∧ (stpP i pc lo st h = some r ∨ stpH M i pc lo st h = some r) := by
  unfold stp at hs
  split at hs
  · cases hs
  · next i hi =>
    refine ⟨i, hi, ?_⟩
    split at hs
    · next r' hr => cases hs; exact Or.inl hr
    · exact Or.inr hs
theorem stp_size {M pc : Nat} {lo : ML} {st : List Value} {h h' : MH} {f : MF} (hs : stp M pc lo st h = some (.inl (f, h'))) : f.2.1.length = lo.length ∧ h.1 ≤ h'.1 ∧ h.2.1 ≤ h'.2.1 := by
  obtain ⟨i, -, h1 | h1⟩ := stp_ins hs
  · obtain ⟨pc', lo', st', e1, e2⟩ := stpP_keep h1
    cases e1
    exact ⟨e2, Nat.le_refl _, Nat.le_refl _⟩
  · obtain ⟨e1, e2⟩ := stpH_keep h1
    exact ⟨by rw [e1], e2⟩
theorem ex_size : ∀ (n d M pc : Nat) (lo : ML) (st : List Value) (h : MH) (v : Option Value) (h' : MH), ex n d M pc lo st h = some (v, h') → h.1 ≤ h'.1 ∧ h.2.1 ≤ h'.2.1 := by
  intro n
  induction n with
  | zero => intro d M pc lo st h v h' hR; cases hR
  | succ n ih =>
    intro d M pc lo st h v h' hR
    cases hs : stp M pc lo st h with
    | none => simp only [ex, hs] at hR; cases hR
    | some r =>
      obtain ⟨f, h1⟩ | ⟨M', as, f⟩ | v1 := r
      · rw [ex_next hs] at hR
        have a := (stp_size hs).2
        have b := ih _ _ _ _ _ _ _ _ hR
        exact ⟨Nat.le_trans a.1 b.1, Nat.le_trans a.2 b.2⟩
      · cases hb : bi M' as h with
        | some V =>
          by_cases hd : d < 6
          · exfalso
            simp only [ex, hs, hb, if_pos hd] at hR
            cases hR
          · obtain ⟨d, rfl⟩ : ∃ k, d = k + 6 := ⟨d - 6, by omega⟩
            rw [ex_bi hs hb] at hR
            have a := bi_size hb
            have b := ih _ _ _ _ _ _ _ _ hR
            exact ⟨Nat.le_trans a.1 b.1, Nat.le_trans a.2 b.2⟩
        | none =>
          cases d with
          | zero =>
            exfalso
            simp only [ex, hs, hb] at hR
            cases hR
          | succ d =>
            rw [ex_call hs hb] at hR
            cases h1 : ex n d M' 0 (ent (mx M') as) [] h with
            | none => rw [h1] at hR; cases hR
            | some R1 =>
              rw [h1] at hR
              have a := ih _ _ _ _ _ _ R1.1 R1.2 h1
              have b := ih _ _ _ _ _ _ _ _ (show ex n (d + 1) M f.1 f.2.1 (R1.1.toList ++ f.2.2) R1.2 = some (v, h') from hR)
              exact ⟨Nat.le_trans a.1 b.1, Nat.le_trans a.2 b.2⟩
      · rw [ex_ret hs] at hR
        cases hR
        exact ⟨Nat.le_refl _, Nat.le_refl _⟩
theorem w_ret {M pc : Nat} {lo : ML} {ls : Array Slot} {st : List Value} {h : MH} {v : Option Value} {Qc : Array Value → State → Outcome → State → Prop} {free : Addr → Prop} (C : mCt B dC dI dA p s m args meth c M) (hlocks : meth.locks = false) (hrt : meth.sig.returnType = rtM M) (hs : stp M pc lo st h = some (.inr (.inr v)))
    (hq : ∀ t : State, t.heap = H → s.WarmedH t.vm → Qc args s (.returned (v.map (up b B))) t) (hf : ∀ q ∈ locs, free q.base) : W p l e R s m args below meth c H locs cells slots (MQ below Qc args s cells slots free) (F0 m pc ls (st.map (up b B))) := by
  obtain ⟨hx, hb, -⟩ := C
  obtain ⟨i, hi, h1 | h1⟩ := stp_ins hs
  · obtain ⟨_, _, _, e1, -⟩ := stpP_keep h1
    cases e1
  · obtain ⟨len, hdg, hl⟩ := ins_dec hi
    unfold stpH at h1
    split at h1
    · cases h1
    · cases h1
    · cases h1
    · unfold gfS at h1
      repeat' split at h1
      all_goals cases h1
    · unfold pfS at h1
      repeat' split at h1
      all_goals cases h1
    · unfold ialS at h1
      repeat' split at h1
      all_goals cases h1
    · unfold ialS at h1
      repeat' split at h1
      all_goals cases h1
    · unfold iasS at h1
      repeat' split at h1
      all_goals cases h1
    · unfold iasS at h1
      repeat' split at h1
      all_goals cases h1
    · unfold aalS at h1
      repeat' split at h1
      all_goals cases h1
    · unfold aasS at h1
      repeat' split at h1
      all_goals cases h1
    · unfold alnS at h1
      repeat' split at h1
      all_goals cases h1
    · unfold nwaS at h1
      repeat' split at h1
      all_goals cases h1
    · unfold nwqS at h1
      repeat' split at h1
      all_goals cases h1
    · unfold nwS at h1
      repeat' split at h1
      all_goals cases h1
    · unfold invS at h1
      repeat' split at h1
      all_goals cases h1
    · unfold invS at h1
      repeat' split at h1
      all_goals cases h1
    · unfold invS at h1
      repeat' split at h1
      all_goals cases h1
    · have e1 : len = 1 := hl rfl
      subst e1
      unfold iretS at h1
      split at h1
      · next x =>
        split at h1
        · next hc =>
          cases h1
          rcases hc with hc | ⟨hc, hn⟩
          · exact W.iret hx hb (hrt.trans hc) hq hf hdg
          · exact W.zret (ty := .boolean) hx hb (hrt.trans hc) (congrArg Value.int hn) hq hf hdg
        · cases h1
      · cases h1
    · have e1 : len = 1 := hl rfl
      subst e1
      unfold lretS at h1
      split at h1
      · split at h1
        · next hc =>
          cases h1
          exact W.lret hx hb (hrt.trans hc) hq hf hdg
        · cases h1
      · cases h1
    · have e1 : len = 1 := hl rfl
      subst e1
      unfold aretS at h1
      split at h1
      · split at h1
        · next hc =>
          cases h1
          cases hr2 : rtM M with
          | none => rw [hr2] at hc; cases hc
          | some ty =>
            rw [hr2] at hc
            exact W.aret (rt := ty) hx hb (hrt.trans hr2) (by cases ty <;> first | (exact Or.inl ⟨_, rfl⟩) | (exact Or.inr ⟨_, rfl⟩) | (cases hc)) (Or.inr ⟨_, rfl⟩) hq hf hdg
        · cases h1
      · cases h1
    · have e1 : len = 1 := hl rfl
      subst e1
      unfold vretS at h1
      split at h1
      · split at h1
        · next hc =>
          cases h1
          exact W.vret hx hb (hrt.trans hc) hq hf hdg
        · cases h1
      · cases h1
    · cases h1
/-- the words of a method -/
def wsM (M : Nat) : List Cond := Cond.code (nmM M) (cod M) (mx M) (rtM M) :: TB
theorem good_wsM {M : Nat} (hM : M < nM) : GoodIn TB (wsM M) := by
  intro w hw
  have hw2 : w ∈ TB := by
    rcases List.mem_cons.mp hw with rfl | hw
    · exact code_in hM
    · exact hw
  exact ⟨hw2, TB_good w hw2⟩
abbrev PcM (b B : Nat) (dC : Nat → ClassId) (dI : Nat → Nat → Nat) (dA : Nat → ClassId) (as : List Value) (h : MH) : Array Value → State → Prop := va_Pc (as.map (up b B)) (fun U => RHm b B dC dI dA U h U.heap ∧ mK dC dI dA U ∧ strK B U)
theorem mK.same {u U : State} (hv : u.vm = U.vm) (h : mK dC dI dA u) : mK dC dI dA U := by
  obtain ⟨h1, h2, h3, h4⟩ := h
  have ha : u.vm.Alike U.vm := hv ▸ Vm.Alike.refl u.vm
  exact ⟨h1.moved ha, fun t ht => ⟨arrOfT_moved ha (h2 t ht).1, (h2 t ht).2.moved ha⟩, fun w hw => va_Nw.same (NW_tab hw) hv (h3 w hw), fun C hC => (h4 C hC).moved ha⟩
theorem PcM_blind (as : List Value) (h : MH) : FrameBlind (PcM b B dC dI dA as h) := by
  intro a U g mk q
  obtain ⟨q0, q1, q2, q3⟩ := q
  exact ⟨q0, RH.moved (s := U) (U := U.calling g mk a) (Vm.Alike.refl U.vm) q1, mK.same (u := U) (U := U.calling g mk a) rfl q2, strK.same (u := U) (U := U.calling g mk a) rfl rfl q3⟩
theorem invS_inv {q : List Nat} {pc M' : Nat} {lo : ML} {st as : List Value} {h : MH} {f : MF} (hs : invS q pc lo st h = some (.inr (.inl (M', as, f)))) : ∃ (kind n ci : Nat) (tl : List Nat), q = kind :: M' :: n :: ci :: tl ∧ n ≤ st.length ∧ cats (st.drop n) ≤ 8 ∧ cats as ≤ mx M' ∧ rcv kind ci as h = true ∧ as = (st.take n).reverse ∧ f = (pc + 3, lo, st.drop n) := by
  unfold invS at hs
  split at hs
  · next kind M2 n ci tl =>
    split at hs
    · next hc =>
      cases hs
      exact ⟨kind, n, ci, tl, rfl, hc.1, hc.2.1, hc.2.2.1, hc.2.2.2, rfl, rfl⟩
    · cases hs
  · cases hs
/-- a call of a method of the tables -/
theorem w_inv {M M' pc mc ms : Nat} {i : Instr} {lo : ML} {ls : Array Slot} {st as : List Value} {h h1 : MH} {f : MF} {v : Option Value} {rm : Room} (C : mCt B dC dI dA p s m args meth c M) (hR : RHm b B dC dI dA s h H) (hS : va_S (fun q => B ≤ q) s.heap H locs) (hd : dec (cod M) pc i) (hok : okI M pc i = true) (hs : stpH M i pc lo st h = some (.inr (.inl (M', as, f)))) (hls : ls.size = mx M) (hM' : M' < nM)
    (hM : Met l (nmM M') (wsM M') rm (PcM b B dC dI dA as h) (mQ b B dC dI dA v h1) mc ms (fun q => B ≤ q)) (hrc : rm.cells = mc) (hrs : rm.slots = ms) (hrf : rm.frames + 1 ≤ R.frames) (hrl : 8 + (mx M' + 11) + rm.locals ≤ R.locals) (hroom : cells + mc ≤ R.cells ∧ slots + ms ≤ R.slots)
    (kk : ∀ (H1 : Heap) (locs1 : List Loc), RHm b B dC dI dA s h1 H1 → va_S (fun q => B ≤ q) s.heap H1 locs1 → W p l e R s m args below meth c H1 locs1 (cells + mc) (slots + ms) Q (F0 m f.1 ls ((v.toList ++ f.2.2).map (up b B)))) :
    f.2.1 = lo ∧ W p l e R s m args below meth c H locs cells slots Q (F0 m pc ls (st.map (up b B))) := by
  obtain ⟨hx, hb, hml, hown, hts, hnm, hK, hStr⟩ := C
  obtain ⟨len, hdg, hl⟩ := hd
  have hP : ∀ U : State, U.heap = H → s.WarmedH U.vm → PcM b B dC dI dA as h (as.map (up b B)).toArray U := fun U hU hW => ⟨rfl, by rw [hU]; exact RH.moved hW.alike hR, hK.moved hW, hStr.moved hW (fun a h1 h2 => by rw [hU]; exact hS.2.1 a h1 h2)⟩
  have hkk : ∀ {pc3 : Nat} {rest : List Value}, f = (pc3, lo, rest) → ∀ (H1 : Heap) (locs1 : List Loc), RHm b B dC dI dA s h1 H1 → va_S (fun q => B ≤ q) s.heap H1 locs1 → W p l e R s m args below meth c H1 locs1 (cells + mc) (slots + ms) Q (F0 m pc3 ls ((v.map (up b B)).toList ++ rest.map (up b B))) := by
    intro pc3 rest hf H1 locs1 a1 a2
    have := kk H1 locs1 a1 a2
    subst hf
    rw [List.map_append] at this
    cases v <;> exact this
  have hst : ∀ n, n ≤ st.length → as = (st.take n).reverse → st.map (up b B) = (as.map (up b B)).reverse ++ (st.drop n).map (up b B) := by
    intro n hn e1
    rw [e1, List.map_reverse, List.reverse_reverse, ← List.map_append, List.take_append_drop]
  have hal : ∀ n, n ≤ st.length → as = (st.take n).reverse → as.length = n := by
    intro n hn e1
    rw [e1, List.length_reverse, List.length_take]
    omega
  have hcat : ∀ n, cats (st.drop n) ≤ 8 → ∀ {pc : Nat} {ls : Array Slot} {rest : List Value}, 2 * (F0 m pc ls rest).monitorRoom + (((st.drop n).map (up b B)).map fun v => v.category).sum ≤ 8 := by
    intro n hn pc ls rest
    exact lv_room (by rw [up_cats]; exact hn)
  have hD : ∀ {n : Nat}, okD (nmM M') n = true → (nmM M').cls ≠ "java/lang/invoke/MethodHandle" ∧ (nmM M').cls ≠ "java/lang/invoke/VarHandle" ∧ (parseMethodDescriptor (nmM M').desc).map (fun d => d.parameters.length) = some n := by
    intro n ho
    simp only [okD, Bool.and_eq_true, decide_eq_true_eq] at ho
    exact ho
  have notB : ∀ {own : String} {idx n : Nat}, okB own idx M' n = true → False := fun ho => okB_ge ho hM'
  have hTB : ∀ {j : Nat} {w : Cond}, wat j w = true → w.before args s = true := fun hw => hts _ (wat_in hw)
  have hNB : ∀ {j idx : Nat}, nwat j (.methodLinkNest (nmM M).cls idx (nmM M') (hostM M)) = true → va_Nw (.methodLinkNest (nmM M).cls idx (nmM M') (hostM M)) s := fun hw => hK.2.2.1 _ (nwat_in hw)
  unfold stpH at hs
  split at hs
  · cases hs
  · cases hs
  · cases hs
  · unfold gfS at hs
    repeat' split at hs
    all_goals cases hs
  · unfold pfS at hs
    repeat' split at hs
    all_goals cases hs
  · unfold ialS at hs
    repeat' split at hs
    all_goals cases hs
  · unfold ialS at hs
    repeat' split at hs
    all_goals cases hs
  · unfold iasS at hs
    repeat' split at hs
    all_goals cases hs
  · unfold iasS at hs
    repeat' split at hs
    all_goals cases hs
  · unfold aalS at hs
    repeat' split at hs
    all_goals cases hs
  · unfold aasS at hs
    repeat' split at hs
    all_goals cases hs
  · unfold alnS at hs
    repeat' split at hs
    all_goals cases hs
  · unfold nwaS at hs
    repeat' split at hs
    all_goals cases hs
  · unfold nwqS at hs
    repeat' split at hs
    all_goals cases hs
  · unfold nwS at hs
    repeat' split at hs
    all_goals cases hs
  · -- invokestatic
    have e1 : len = 3 := hl rfl
    subst e1
    obtain ⟨kind, n, ci, tl, hq, hn, hc8, hcm, hrc2, has, hf⟩ := invS_inv hs
    refine ⟨by rw [hf], ?_⟩
    simp only [okI] at hok
    rw [hq] at hok
    unfold okS at hok
    split at hok
    · next kind' M2 n2 ci2 j1 j2 j3 tl2 hq2 =>
      cases hq2
      split at hok
      · simp only [Bool.and_eq_true, decide_eq_true_eq] at hok
        obtain ⟨-, hd1, w1, w2, w3⟩ := hok
        rw [hst n hn has]
        exact w_call (va_runS (As := as.map (up b B)) (rest := (st.drop n).map (up b B)) ⟨hx, hb, hml, hown, hts⟩ hM ⟨callB_of n hts (good_wsM hM') rfl hrc hrs (hTB w3) (hTB w1) (hD hd1) ⟨hrf, hrl⟩, hTB w2⟩ ⟨PcM_blind as h, hP⟩ rfl (by rw [List.length_map]; exact hal n hn has) hls rfl (hcat n hc8) hdg hroom) hS (hkk hf)
      · simp only [Bool.and_eq_true, decide_eq_true_eq] at hok
        obtain ⟨-, hd1, w1, w2, w3⟩ := hok
        rw [hst n hn has]
        exact w_call (va_runSN (As := as.map (up b B)) (rest := (st.drop n).map (up b B)) ⟨hx, hb, hml, hown, hts⟩ hM ⟨va_cnB n hts (good_wsM hM') rfl hrc hrs (hNB w1) (hTB w3) (hD hd1) ⟨hrf, hrl⟩, hTB w2, trivial⟩ ⟨PcM_blind as h, hP⟩ rfl (by rw [List.length_map]; exact hal n hn has) hls rfl (hcat n hc8) hdg hroom) hS (hkk hf)
      · simp only [Bool.and_eq_true] at hok
        exact (notB hok.2).elim
      · cases hok
    · cases hok
  · -- invokevirtual
    have e1 : len = 3 := hl rfl
    subst e1
    obtain ⟨kind, n, ci, tl, hq, hn, hc8, hcm, hrc2, has, hf⟩ := invS_inv hs
    refine ⟨by rw [hf], ?_⟩
    simp only [okI] at hok
    rw [hq] at hok
    unfold okV at hok
    split at hok
    · next kind' M2 n2 ci2 j1 j2 j3 j4 tl2 hq2 =>
      cases hq2
      simp only [Bool.and_eq_true, decide_eq_true_eq] at hok
      obtain ⟨-, hcl, hn0, hd1, w2, w3, w4, w1⟩ := hok
      split at hcl
      · next C T N hcl2 =>
        have hcl3 : (nmM M').cls = C := of_decide_eq_true hcl
        subst hcl3
        have hal2 := hal n hn has
        have hrcv : ∃ (a : Nat) (As : List Value), as = .ref a :: As ∧ clsOf h a = some ci := by
          unfold rcv at hrc2
          split at hrc2
          · exact absurd w1 (by simp)
          · exact absurd w1 (by simp)
          · exact absurd w1 (by simp)
          · split at hrc2
            · next a As => exact ⟨a, As, rfl, of_decide_eq_true hrc2⟩
            · cases hrc2
          · split at hrc2
            · next a As => exact ⟨a, As, rfl, of_decide_eq_true hrc2⟩
            · cases hrc2
          · exact absurd w1 (by simp)
          · exact absurd w1 (by simp)
          · cases hrc2
        obtain ⟨a, As, hasE, hcls⟩ := hrcv
        have hrecv : ∃ cellB : Cell, H[ad b B a]? = some cellB ∧ cellB.vm.isStatics = false ∧ s.vm.findClass (nmM M').cls = some cellB.cls := by
          unfold clsOf at hcls
          split at hcls
          · next c0 fs hc0 =>
            cases hcls
            obtain ⟨q, rfl, hat⟩ := hR.nz hc0
            exact va_recv hK.1 (va_P.one hat) hcl2 (q0 := 0) rfl
          · cases hcls
        have hP2 : ∀ U : State, U.heap = H → s.WarmedH U.vm → PcM b B dC dI dA as h (Value.ref (ad b B a) :: As.map (up b B)).toArray U := by
          have e2 : as.map (up b B) = Value.ref (ad b B a) :: As.map (up b B) := by rw [hasE]; rfl
          intro U hU hW
          have := hP U hU hW
          rw [e2] at this
          exact this
        have hst2 : st.map (up b B) = (As.map (up b B)).reverse ++ .ref (ad b B a) :: (st.drop n).map (up b B) := by
          rw [hst n hn has, hasE]
          simp [up]
        have hnA : (As.map (up b B)).length = n - 1 := by
          rw [hasE] at hal2
          rw [List.length_map]
          simp at hal2
          omega
        have hkk2 := hkk hf
        rw [hst2]
        split at w1
        · have hr := va_runV (b := ad b B a) (C := (nmM M').cls) (As := As.map (up b B)) (rest := (st.drop n).map (up b B)) (g := F0 m pc ls ((As.map (up b B)).reverse ++ .ref (ad b B a) :: (st.drop n).map (up b B))) (locs := locs) (cells := cells) (slots := slots) (below := below) (meth := meth) (e := e) ⟨hx, hb, hml, hown, hts⟩ hM ⟨callB_of (n - 1) hts (good_wsM hM') rfl hrc hrs (hTB w4) (hTB w1) (hD hd1) ⟨hrf, hrl⟩, hTB w2, hTB w3⟩ ⟨PcM_blind as h, hrecv, hP2⟩ rfl hnA hls rfl (hcat n hc8) hdg hroom
          exact w_call hr hS hkk2
        · have hr := va_runVN (b := ad b B a) (C := (nmM M').cls) (As := As.map (up b B)) (rest := (st.drop n).map (up b B)) (g := F0 m pc ls ((As.map (up b B)).reverse ++ .ref (ad b B a) :: (st.drop n).map (up b B))) (locs := locs) (cells := cells) (slots := slots) (below := below) (meth := meth) (e := e) ⟨hx, hb, hml, hown, hts⟩ hM ⟨va_cnB (n - 1) hts (good_wsM hM') rfl hrc hrs (hNB w1) (hTB w4) (hD hd1) ⟨hrf, hrl⟩, hTB w2, hTB w3⟩ ⟨PcM_blind as h, hrecv, hP2⟩ rfl hnA hls rfl (hcat n hc8) hdg hroom
          exact w_call hr hS hkk2
        · cases w1
      · cases hcl
    · cases hok
  · -- invokespecial
    have e1 : len = 3 := hl rfl
    subst e1
    obtain ⟨kind, n, ci, tl, hq, hn, hc8, hcm, hrc2, has, hf⟩ := invS_inv hs
    refine ⟨by rw [hf], ?_⟩
    simp only [okI] at hok
    rw [hq] at hok
    unfold okC at hok
    split at hok
    · next kind' M2 n2 ci2 j1 j2 j3 tl2 hq2 =>
      cases hq2
      split at hok
      · simp only [Bool.and_eq_true] at hok
        exact (notB hok.2).elim
      · next hk6 =>
        simp only [Bool.and_eq_true, decide_eq_true_eq] at hok
        obtain ⟨-, hn0, hin, hrt0, hd1, w2, w3, w1⟩ := hok
        have hal2 := hal n hn has
        have hrcv : ∃ (a : Nat) (As : List Value), as = .ref a :: As := by
          unfold rcv at hrc2
          split at hrc2
          · exact absurd w1 (by simp)
          · exact absurd w1 (by simp)
          · exact absurd w1 (by simp)
          · exact absurd w1 (by simp)
          · exact absurd w1 (by simp)
          · split at hrc2
            · next a As => exact ⟨a, As, rfl⟩
            · cases hrc2
          · split at hrc2
            · next a As => exact ⟨a, As, rfl⟩
            · cases hrc2
          · cases hrc2
        obtain ⟨a, As, hasE⟩ := hrcv
        have hP2 : ∀ U : State, U.heap = H → s.WarmedH U.vm → PcM b B dC dI dA as h (Value.ref (ad b B a) :: As.map (up b B)).toArray U := by
          have e2 : as.map (up b B) = Value.ref (ad b B a) :: As.map (up b B) := by rw [hasE]; rfl
          intro U hU hW
          have := hP U hU hW
          rw [e2] at this
          exact this
        have hst2 : st.map (up b B) = (As.map (up b B)).reverse ++ .ref (ad b B a) :: (st.drop n).map (up b B) := by
          rw [hst n hn has, hasE]
          simp [up]
        have hnA : (As.map (up b B)).length = n - 1 := by
          rw [hasE] at hal2
          rw [List.length_map]
          simp at hal2
          omega
        have hkk2 := hkk hf
        have hwsE : wsM M' = Cond.code (nmM M') (cod M') (mx M') none :: TB := by unfold wsM; rw [hrt0]
        rw [hst2]
        split at w1
        · have hr := va_runI (b := ad b B a) (As := As.map (up b B)) (rest := (st.drop n).map (up b B)) (g := F0 m pc ls ((As.map (up b B)).reverse ++ .ref (ad b B a) :: (st.drop n).map (up b B))) (locs := locs) (cells := cells) (slots := slots) (below := below) (meth := meth) (e := e) ⟨hx, hb, hml, hown, hts⟩ hM ⟨callB_of (n - 1) hts (good_wsM hM') hwsE hrc hrs (hTB w3) (hTB w1) (hD hd1) ⟨hrf, hrl⟩, hin, hTB w2⟩ ⟨PcM_blind as h, hP2⟩ rfl hnA hls rfl (hcat n hc8) hdg hroom
          exact w_call hr hS hkk2
        · have hr := va_runIN (b := ad b B a) (As := As.map (up b B)) (rest := (st.drop n).map (up b B)) (g := F0 m pc ls ((As.map (up b B)).reverse ++ .ref (ad b B a) :: (st.drop n).map (up b B))) (locs := locs) (cells := cells) (slots := slots) (below := below) (meth := meth) (e := e) ⟨hx, hb, hml, hown, hts⟩ hM ⟨va_cnB (n - 1) hts (good_wsM hM') hwsE hrc hrs (hNB w1) (hTB w3) (hD hd1) ⟨hrf, hrl⟩, hin, hTB w2⟩ ⟨PcM_blind as h, hP2⟩ rfl hnA hls rfl (hcat n hc8) hdg hroom
          exact w_call hr hS hkk2
        · cases w1
    · cases hok
  · unfold iretS at hs
    repeat' split at hs
    all_goals cases hs
  · unfold lretS at hs
    repeat' split at hs
    all_goals cases hs
  · unfold aretS at hs
    repeat' split at hs
    all_goals cases hs
  · unfold vretS at hs
    repeat' split at hs
    all_goals cases hs
  · cases hs
theorem stpH_call {M : Nat} {i : Instr} {pc M' : Nat} {lo : ML} {st as : List Value} {h : MH} {f : MF} (hs : stpH M i pc lo st h = some (.inr (.inl (M', as, f)))) : invS (rv M pc) pc lo st h = some (.inr (.inl (M', as, f))) ∧ ∃ idx, i = .invokestatic idx ∨ i = .invokevirtual idx ∨ i = .invokespecial idx := by
  unfold stpH at hs
  split at hs
  · cases hs
  · cases hs
  · cases hs
  · unfold gfS at hs
    repeat' split at hs
    all_goals cases hs
  · unfold pfS at hs
    repeat' split at hs
    all_goals cases hs
  · unfold ialS at hs
    repeat' split at hs
    all_goals cases hs
  · unfold ialS at hs
    repeat' split at hs
    all_goals cases hs
  · unfold iasS at hs
    repeat' split at hs
    all_goals cases hs
  · unfold iasS at hs
    repeat' split at hs
    all_goals cases hs
  · unfold aalS at hs
    repeat' split at hs
    all_goals cases hs
  · unfold aasS at hs
    repeat' split at hs
    all_goals cases hs
  · unfold alnS at hs
    repeat' split at hs
    all_goals cases hs
  · unfold nwaS at hs
    repeat' split at hs
    all_goals cases hs
  · unfold nwqS at hs
    repeat' split at hs
    all_goals cases hs
  · unfold nwS at hs
    repeat' split at hs
    all_goals cases hs
  · exact ⟨hs, _, Or.inl rfl⟩
  · exact ⟨hs, _, Or.inr (Or.inl rfl)⟩
  · exact ⟨hs, _, Or.inr (Or.inr rfl)⟩
  · unfold iretS at hs
    repeat' split at hs
    all_goals cases hs
  · unfold lretS at hs
    repeat' split at hs
    all_goals cases hs
  · unfold aretS at hs
    repeat' split at hs
    all_goals cases hs
  · unfold vretS at hs
    repeat' split at hs
    all_goals cases hs
  · cases hs
theorem stpH_call_lo {M : Nat} {i : Instr} {pc M' : Nat} {lo : ML} {st as : List Value} {h : MH} {f : MF} (hs : stpH M i pc lo st h = some (.inr (.inl (M', as, f)))) : f.2.1 = lo := by
  obtain ⟨_, _, _, _, -, -, -, -, -, -, e⟩ := invS_inv (stpH_call hs).1
  rw [e]
theorem stpH_call_cats {M : Nat} {i : Instr} {pc M' : Nat} {lo : ML} {st as : List Value} {h : MH} {f : MF} (hs : stpH M i pc lo st h = some (.inr (.inl (M', as, f)))) : cats as ≤ mx M' := by
  obtain ⟨_, _, _, _, -, -, -, e, -⟩ := invS_inv (stpH_call hs).1
  exact e
def yOp : MethodName := ⟨"FlowEquations", "isOperator", "(I)Z"⟩
def wsOp : List Cond := Cond.code yOp prog_1_method_21_code 2 (some .boolean) :: TB
def opQ (c : Int32) : Array Value → State → Outcome → State → Prop := fun _ st oc t => oc = .returned (some (.int (if isOpc c = true then 1 else 0))) ∧ t.heap = st.heap
def opOK (l : Launch) : Prop := ∀ (B : Nat) (c : Int32), Met l yOp wsOp { frames := 4, cells := 0, slots := 0, locals := 200 } (va_Pc [.int c] (fun U => strK B U)) (opQ c) 0 0 (fun _ => False)
theorem call_kind {M pc M' : Nat} {i : Instr} {lo : ML} {st as : List Value} {h : MH} {f : MF} (hok : okI M pc i = true) (hs : stpH M i pc lo st h = some (.inr (.inl (M', as, f)))) : M' < nM ∨ ∃ n idx, n ≤ st.length ∧ cats (st.drop n) ≤ 8 ∧ as = (st.take n).reverse ∧ f = (pc + 3, lo, st.drop n) ∧ ((i = .invokestatic idx ∧ M' ≠ 900 ∧ okB (nmM M).cls idx M' n = true) ∨ (i = .invokespecial idx ∧ M' = 900 ∧ okB (nmM M).cls idx M' n = true)) := by
  obtain ⟨hs2, idx, hi⟩ := stpH_call hs
  obtain ⟨kind, n, ci, tl, hq, hn, hc8, hcm, hrc2, has, hf⟩ := invS_inv hs2
  rcases hi with rfl | rfl | rfl
  · simp only [okI] at hok
    rw [hq] at hok
    unfold okS at hok
    split at hok
    · next hq2 =>
      cases hq2
      split at hok
      · simp only [Bool.and_eq_true, decide_eq_true_eq] at hok
        exact Or.inl hok.1
      · simp only [Bool.and_eq_true, decide_eq_true_eq] at hok
        exact Or.inl hok.1
      · simp only [Bool.and_eq_true, decide_eq_true_eq] at hok
        exact Or.inr ⟨n, idx, hn, hc8, has, hf, Or.inl ⟨rfl, hok.1, hok.2⟩⟩
      · cases hok
    · cases hok
  · simp only [okI] at hok
    rw [hq] at hok
    unfold okV at hok
    split at hok
    · next hq2 =>
      cases hq2
      simp only [Bool.and_eq_true, decide_eq_true_eq] at hok
      exact Or.inl hok.1
    · cases hok
  · simp only [okI] at hok
    rw [hq] at hok
    unfold okC at hok
    split at hok
    · next hq2 =>
      cases hq2
      split at hok
      · simp only [Bool.and_eq_true, decide_eq_true_eq] at hok
        exact Or.inr ⟨n, idx, hn, hc8, has, hf, Or.inr ⟨rfl, hok.1, hok.2⟩⟩
      · simp only [Bool.and_eq_true, decide_eq_true_eq] at hok
        exact Or.inl hok.1
    · cases hok
theorem call_lt {M pc M' : Nat} {i j : Instr} {lo : ML} {st as : List Value} {h : MH} {f : MF} (hok : okI M pc i = true) (hs : stpH M i pc lo st h = some (.inr (.inl (M', as, f)))) (hj : insM M' 0 = some j) : M' < nM := by
  rcases call_kind hok hs with h1 | ⟨n, idx, -, -, -, -, h1 | h1⟩
  · exact h1
  · have h2 := okB_ge' h1.2.2
    have h3 := ins_lt hj
    omega
  · have h2 := okB_ge' h1.2.2
    have h3 := ins_lt hj
    omega
theorem ex_ins {n d M' pc : Nat} {lo : ML} {st : List Value} {h : MH} {R : MR} (hE : ex n d M' pc lo st h = some R) : insM M' pc = some ((insM M' pc).getD .nop) := by
  cases n with
  | zero => cases hE
  | succ n =>
    cases hs : stp M' pc lo st h with
    | none => simp only [ex, hs] at hE; cases hE
    | some r =>
      obtain ⟨i, hi, -⟩ := stp_ins hs
      rw [hi]
      rfl
theorem w_copy {M pc idx : Nat} {ls : Array Slot} {rest : List Value} {h h' : MH} {a0 a : Nat} {sp dp n : Int32} (C : mCt B dC dI dA p s m args meth c M) (hR : RHm b B dC dI dA s h H) (hS : va_S (fun q => B ≤ q) s.heap H locs) (hls : ls.size = mx M) (hlink : (Cond.methodLink (nmM M).cls idx arraycopyName).before args s = true) (hv : acopy h a0 sp a dp n = some h') (hframes : 1 ≤ R.frames) (hlocals : cats rest + 18 ≤ R.locals) (hdg : decode (cod M) pc = .ok (.invokestatic idx, 3))
    (kk : ∀ (H1 : Heap) (locs1 : List Loc), RHm b B dC dI dA s h' H1 → va_S (fun q => B ≤ q) s.heap H1 locs1 → W p l e R s m args below meth c H1 locs1 cells slots Q (F0 m (pc + 3) ls (rest.map (up b B)))) : W p l e R s m args below meth c H locs cells slots Q (F0 m pc ls (.int n :: .int dp :: .ref (ad b B a) :: .int sp :: .ref (ad b B a0) :: rest.map (up b B))) := by
  obtain ⟨hx, hb, hml, hown, hts, hnm, ⟨hK, hAr, hNW, hAO⟩, -⟩ := C
  unfold acopy at hv
  split at hv
  · next t0 n0 f t1 n1 g hc0 hc1 =>
    split at hv
    · next hci =>
      obtain ⟨rfl, rfl, h1, h2, h3, h4, h5, hz0, hz1⟩ := hci
      cases hv
      cases a0 with
      | zero => exact absurd rfl hz0
      | succ k0 =>
      cases a with
      | zero => exact absurd rfl hz1
      | succ k1 =>
      have hat0 : H[B + k0]? = some (vp_cell (dA 0) (n0, .inl f)) := hR.2.2.2.2.2.1 k0 _ hc0
      have hat1 : H[B + k1]? = some (vp_cell (dA 0) (n1, .inl g)) := hR.2.2.2.2.2.1 k1 _ hc1
      have nn : ∀ z : Int32, ¬ z < 0 → z.toInt = (z.toNatClampNeg : Int) := by
        intro z hz
        have hz0 : (0 : Int) ≤ z.toInt := by
          have := Int32.not_lt.mp hz
          simpa using Int32.le_iff_toInt_le.mp this
        show z.toInt = ((z.toInt.toNat : Nat) : Int)
        omega
      intro T hT X
      obtain ⟨-, q0, hk0, cm0, hkk0⟩ := (hAr 0 srt_0).1 n0 (fun j => .int (f j))
      obtain ⟨-, q1, hk1, cm1, hkk1⟩ := (hAr 0 srt_0).1 n1 (fun j => .int (g j))
      obtain ⟨vm', X', step⟩ := X.arraycopy hx hown hlink (hts (.native arraycopyName) (by decide +kernel)) (hts (.static arraycopyName) (by decide +kernel)) (hts (.initialized "java/lang/System") (by decide +kernel)) (src := B + k0) (dst := B + k1) (cs := vp_cell (dA 0) (n0, .inl f)) (cd := vp_cell (dA 0) (n1, .inl g)) (srcPos := sp) (destPos := dp) (n := n) (by rw [hT]; exact hat0) (by rw [hT]; exact hat1)
        (fun _ h => by cases h) (fun _ h => by cases h) (fun h => by cases h) (fun h => by cases h) hk0 hk1 hkk0 hkk1 (by simp [tyT, refKind]) h1 h2 h3
        (by rw [nn sp h1, nn n h3]; show ¬ _ > ((arrV (dA 0) n0 (fun j => .int (f j))).slots.size : Int); rw [arrV_size]; omega)
        (by rw [nn dp h2, nn n h3]; show ¬ _ > ((arrV (dA 0) n1 (fun j => .int (g j))).slots.size : Int); rw [arrV_size]; omega)
        (fun vm₁ _ i hi => by
          have e : (vp_cell (dA 0) (n0, .inl f)).slots.getD (sp.toNatClampNeg + i) .null = .int (f (sp.toNatClampNeg + i)) := by
            show (arrV (dA 0) n0 (fun j => .int (f j))).slots.getD _ _ = _
            rw [Array.getD_eq_getD_getElem?, arrV_read _ _ (by omega)]
            rfl
          refine ⟨?_, ?_⟩
          · rw [e]; rfl
          · rw [e]; exact trivial)
        (g := F0 m pc ls (.int n :: .int dp :: .ref (B + k1) :: .int sp :: .ref (B + k0) :: rest.map (up b B))) rfl (by rw [hml]; exact hls) (rest := rest.map (up b B)) rfl (by rw [hb]; exact hdg) hframes (by
          show 2 * 0 + _ + _ ≤ _
          rw [up_cats]
          have : nativeFrameWords "java/lang/System" "arraycopy" 5 = 7 := by decide +kernel
          rw [this]
          omega)
      have e1 : copied (vp_cell (dA 0) (n0, .inl f)) (vp_cell (dA 0) (n1, .inl g)) sp dp n = vp_cell (dA 0) (n1, .inl (va_cpy f g sp.toNatClampNeg dp.toNatClampNeg n.toNatClampNeg)) := va_copied (fun z => .int z) (dA 0) (dA 0) f g h4
      rw [e1] at X' step
      have hl : B + k1 < H.size := (Array.getElem?_eq_some_iff.mp hat1).1
      have hheap : ((T.setVm vm').setCell (B + k1) (vp_cell (dA 0) (n1, .inl (va_cpy f g sp.toNatClampNeg dp.toNatClampNeg n.toNatClampNeg)))).heap = H.setIfInBounds (B + k1) (vp_cell (dA 0) (n1, .inl (va_cpy f g sp.toNatClampNeg dp.toNatClampNeg n.toNatClampNeg))) := by rw [← hT]; rfl
      have oq : ∀ q : Nat, q ≠ B + k1 → (H.setIfInBounds (B + k1) (vp_cell (dA 0) (n1, .inl (va_cpy f g sp.toNatClampNeg dp.toNatClampNeg n.toNatClampNeg))))[q]? = H[q]? := fun q hq => by simp [Array.getElem?_setIfInBounds, Ne.symm hq]
      have hat' : va_at (dC, dI) clT (B + k1, cv b B dA (.inl (0, n1, .inl (va_cpy f g sp.toNatClampNeg dp.toNatClampNeg n.toNatClampNeg)))) (H.setIfInBounds (B + k1) (vp_cell (dA 0) (n1, .inl (va_cpy f g sp.toNatClampNeg dp.toNatClampNeg n.toNatClampNeg)))) := by
        show (H.setIfInBounds (B + k1) _)[B + k1]? = some _
        simp [Array.getElem?_setIfInBounds, hl]
        rfl
      obtain ⟨t, a1, b1⟩ := kk _ _ (hR.set hc1 hat' (by simp) oq (fun t' x' hx' => by cases hx'; exact srt_0)) ⟨by simp; exact hS.1, fun q g1 g2 => by
          rw [oq q (fun e => g2 (by rw [e]; exact Nat.le_add_right B k1))]
          exact hS.2.1 q g1 g2, fun q hq => by
          rcases List.mem_append.mp hq with h | h
          · exact hS.2.2 q h
          · obtain ⟨z, -, hz⟩ := List.mem_map.mp h
            rw [← hz]
            exact Nat.le_add_right B k1⟩ _ hheap X'
      exact ⟨t, step t a1, b1⟩
    · cases hv
  · cases hv
theorem take_rev {st as : List Value} {n : Nat} (h : as = (st.take n).reverse) : st = as.reverse ++ st.drop n := by
  rw [h, List.reverse_reverse, List.take_append_drop]
/-- a call of a built-in method -/
theorem w_bi {M M' pc z0 z1 : Nat} {i : Instr} {lo : ML} {ls : Array Slot} {st as : List Value} {h h2 : MH} {f : MF} {v2 : Option Value} (hOp : opOK l) (C : mCt B dC dI dA p s m args meth c M) (hR : RHm b B dC dI dA s h H) (hS : va_S (fun q => B ≤ q) s.heap H locs) (hd : dec (cod M) pc i) (hok : okI M pc i = true) (hs : stpH M i pc lo st h = some (.inr (.inl (M', as, f)))) (hb : bi M' as h = some (v2, h2)) (hls : ls.size = mx M) (hfr : 6 ≤ R.frames) (hlo : 384 ≤ R.locals) (hz0 : cells + z0 = h.1) (hz1 : slots + z1 = h.2.1) (hr0 : h2.1 ≤ R.cells + z0) (hr1 : h2.2.1 ≤ R.slots + z1)
    (kk : ∀ (H1 : Heap) (locs1 : List Loc) (cells1 slots1 : Nat), RHm b B dC dI dA s h2 H1 → va_S (fun q => B ≤ q) s.heap H1 locs1 → cells1 + z0 = h2.1 → slots1 + z1 = h2.2.1 → W p l e R s m args below meth c H1 locs1 cells1 slots1 Q (F0 m f.1 ls ((v2.toList ++ f.2.2).map (up b B)))) :
    W p l e R s m args below meth c H locs cells slots Q (F0 m pc ls (st.map (up b B))) := by
  have hge := bi_ge hb
  have C0 := C
  obtain ⟨hx, hbc, hml, hown, hts, hnm, hK, hStr⟩ := C
  obtain ⟨len, hdg, hl⟩ := hd
  rcases call_kind hok hs with h1 | ⟨n, idx, hn, hc8, has, hf, hi⟩
  · exfalso
    have : nM ≤ 900 := by decide
    omega
  · have hst := take_rev has
    have hlen : as.length = n := by rw [has, List.length_reverse, List.length_take]; omega
    subst hf
    rcases hi with ⟨rfl, hne, hB⟩ | ⟨rfl, rfl, hB⟩
    · have e1 : len = 3 := hl rfl
      subst e1
      unfold okB at hB
      split at hB
      · exact absurd rfl hne
      · -- arraycopy
        simp only [Bool.and_eq_true, decide_eq_true_eq] at hB
        have hb2 : biR 1 as h = some (v2, h2) := hb
        simp only [biR] at hb2
        split at hb2
        · next a0 sp a dp nn =>
          split at hb2
          · next h3 hv =>
            cases hb2
            have e9 := acopy_size hv
            rw [hst]
            exact w_copy (rest := st.drop n) C0 hR hS hls (hts _ hB.2) hv (by omega) (by omega) hdg (fun H1 locs1 a1 a2 => kk H1 locs1 cells slots a1 a2 (by rw [e9.1]; exact hz0) (by rw [e9.2]; exact hz1))
          · cases hb2
        · cases hb2
      · -- isOperator
        simp only [Bool.and_eq_true, decide_eq_true_eq] at hB
        have hb2 : biR 2 as h = some (v2, h2) := hb
        simp only [biR] at hb2
        split at hb2
        · next ch =>
          cases hb2
          have hn1 : n = 1 := hB.1
          subst hn1
          have hroom : cells + 0 ≤ R.cells ∧ slots + 0 ≤ R.slots := ⟨by omega, by omega⟩
          have hgood : GoodIn TB wsOp := by
            intro w hw
            have hw2 : w ∈ TB := by
              rcases List.mem_cons.mp hw with rfl | hw
              · exact List.mem_of_getElem? (i := 182) rfl
              · exact hw
            exact ⟨hw2, TB_good w hw2⟩
          have hr := va_runS (H := H) (As := [.int ch]) (rest := (st.drop 1).map (up b B)) (g := F0 m pc ls (.int ch :: (st.drop 1).map (up b B))) (locs := locs) (cells := cells) (slots := slots) (below := below) (meth := meth) (e := e) (R := R) (Ts := TB) ⟨hx, hbc, hml, hown, hts⟩ (hOp B ch) ⟨callB_of 1 hts hgood rfl rfl rfl (hts (.initialized "FlowEquations") (by decide +kernel)) (hts _ hB.2.2) (by decide +kernel) ⟨by show 4 + 1 ≤ R.frames; omega, by show 8 + (2 + 11) + 200 ≤ R.locals; omega⟩, hts (.static yOp) (by decide +kernel)⟩ ⟨fun a U g mk q => ⟨q.1, strK.same (u := U) (U := U.calling g mk a) rfl rfl q.2⟩, fun U hU hW => ⟨rfl, hStr.moved hW (fun a h1 h2 => by rw [hU]; exact hS.2.1 a h1 h2)⟩⟩ rfl rfl hls rfl (lv_room (by rw [up_cats]; exact hc8)) hdg hroom
          rw [hst]
          intro T hT X
          obtain ⟨v', st₀, t, T', L, g0, X', hL, g1, g2, ⟨hv, hh⟩, stp1⟩ := hr T hT X
          cases hv
          have hTH : T'.heap = H := by rw [g1, hh, g0]
          have hL0 : L = [] := by
            cases L with
            | nil => rfl
            | cons x xs => exact (hL x List.mem_cons_self).elim
          subst hL0
          rw [List.append_nil] at X'
          obtain ⟨t2, a1, b1⟩ := kk H locs (cells + 0) (slots + 0) hR hS (by omega) (by omega) T' hTH X'
          exact ⟨t2, stp1 t2 a1, b1⟩
        · cases hb2
      · cases hB
    · -- Object's constructor
      have e1 : len = 3 := hl rfl
      subst e1
      have hB2 : (decide (n = 1) && decide (Cond.methodLink (nmM M).cls idx Lib.objectInit ∈ TB)) = true := hB
      simp only [Bool.and_eq_true, decide_eq_true_eq] at hB2
      have hb2 : biR 0 as h = some (v2, h2) := hb
      simp only [biR] at hb2
      split at hb2
      · next a =>
        cases hb2
        rw [hst]
        exact W.objInit hx hbc hown (hts _ hB2.2) (hts (.instanceMethod Lib.objectInit) (by decide +kernel)) (hts _ (List.mem_of_getElem? (l := TB) (i := 74) rfl)) rfl (by rw [hml]; exact hls) rfl hdg (by omega) (by
          show 2 * 0 + (((st.drop n).map (up b B)).map fun v => v.category).sum + 12 ≤ _
          rw [up_cats]
          omega) (kk H locs cells slots hR hS hz0 hz1)
      · cases hb2
/-- WHAT THE SMALL MACHINE RUNS, THE JVM RUNS -/
theorem sim (l : Launch) (hOp : opOK l) : ∀ (n d M pc : Nat) (lo : ML) (st : List Value) (h : MH) (v : Option Value) (h' : MH), ex n d M pc lo st h = some (v, h') →
    ∀ (p : Program) (e : Env) (R : Room) (s : State) (m : MethodId) (args : Array Value) (below : List Frame) (meth : Method) (c : Code) (Q : State → Prop) (z0 z1 : Nat), mCt B dC dI dA p s m args meth c M → h'.1 ≤ R.cells + z0 → h'.2.1 ≤ R.slots + z1 → d ≤ R.frames → 64 * d ≤ R.locals →
      (∀ (pc' : Nat) (lo' : ML) (ls' : Array Slot) (st' : List Value) (H' : Heap) (locs' : List Loc) (cells' slots' : Nat), stp M pc' lo' st' h' = some (.inr (.inr v)) → RHm b B dC dI dA s h' H' → va_S (fun q => B ≤ q) s.heap H' locs' → cells' + z0 = h'.1 → slots' + z1 = h'.2.1 → W p l e R s m args below meth c H' locs' cells' slots' Q (F0 m pc' ls' (st'.map (up b B)))) →
      ∀ (H : Heap) (locs : List Loc) (cells slots : Nat) (ls : Array Slot), RHm b B dC dI dA s h H → RL b B lo ls → lo.length = mx M → va_S (fun q => B ≤ q) s.heap H locs → cells + z0 = h.1 → slots + z1 = h.2.1 → W p l e R s m args below meth c H locs cells slots Q (F0 m pc ls (st.map (up b B))) := by
  intro n
  induction n with
  | zero => intro d M pc lo st h v h' hR; cases hR
  | succ n ih =>
    intro d M pc lo st h v h' hE p e R s m args below meth c Q z0 z1 C hr0 hr1 hfr hlo hret H locs cells slots ls hR hL hlen hS hz0 hz1
    cases hs : stp M pc lo st h with
    | none => simp only [ex, hs] at hE; cases hE
    | some r =>
      obtain ⟨i, hi, hsi⟩ := stp_ins hs
      have hd := ins_dec hi
      have hok := ins_ok hi
      obtain ⟨f, h1⟩ | ⟨M', as, f⟩ | v1 := r
      · rw [ex_next hs] at hE
        have hsz := ex_size _ _ _ _ _ _ _ _ _ hE
        have hst := stp_size hs
        rcases hsi with hsi | hsi
        · obtain ⟨pc', lo', st', e1, hk⟩ := sim_P (p := p) (l := l) (e := e) (R := R) (s := s) (m := m) (args := args) (below := below) (meth := meth) (c := c) (H := H) (locs := locs) (cells := cells) (slots := slots) (Q := Q) (b := b) (B := B) C.1 C.2.1 hd hsi
          cases e1
          exact hk (fun ls' hL' => ih _ _ _ _ _ _ _ _ hE p e R s m args below meth c Q z0 z1 C hr0 hr1 hfr hlo hret H locs cells slots ls' hR hL' (hst.1.trans hlen) hS hz0 hz1) ls hL
        · obtain ⟨pc', lo', st'⟩ := f
          have hkeep := stpH_keep hsi
          have hlo' : lo' = lo := hkeep.1
          subst hlo'
          exact (sim_H C hR hS hd hok hsi hz0 hz1 (Nat.le_trans hsz.1 hr0) (Nat.le_trans hsz.2 hr1) (fun H1 locs1 cells1 slots1 a1 a2 a3 a4 => ih _ _ _ _ _ _ _ _ hE p e R s m args below meth c Q z0 z1 C hr0 hr1 hfr hlo hret H1 locs1 cells1 slots1 ls a1 hL hlen a2 a3 a4)).2
      · have hsi : stpH M i pc lo st h = some (.inr (.inl (M', as, f))) := by
          rcases hsi with hsi | hsi
          · obtain ⟨_, _, _, e1, -⟩ := stpP_keep hsi
            cases e1
          · exact hsi
        have hls : ls.size = mx M := hL.1.trans hlen
        cases hb : bi M' as h with
        | some V =>
          by_cases hd6 : d < 6
          · exfalso
            simp only [ex, hs, hb, if_pos hd6] at hE
            cases hE
          · obtain ⟨d, rfl⟩ : ∃ k, d = k + 6 := ⟨d - 6, by omega⟩
            rw [ex_bi hs hb] at hE
            have hsz := ex_size _ _ _ _ _ _ _ _ _ hE
            obtain ⟨v2, h2⟩ := V
            have hf : f.2.1 = lo := stpH_call_lo hsi
            refine w_bi hOp C hR hS hd hok hsi hb hls (by omega) (by omega) hz0 hz1 (Nat.le_trans hsz.1 hr0) (Nat.le_trans hsz.2 hr1) (fun H1 locs1 cells1 slots1 a1 a2 a3 a4 => ih _ _ _ _ _ _ _ _ hE p e R s m args below meth c Q z0 z1 C hr0 hr1 hfr hlo hret H1 locs1 cells1 slots1 ls a1 (by rw [hf]; exact hL) (by rw [hf]; exact hlen) a2 a3 a4)
        | none =>
          cases d with
          | zero =>
            exfalso
            simp only [ex, hs, hb] at hE
            cases hE
          | succ d =>
            rw [ex_call hs hb] at hE
            cases h1 : ex n d M' 0 (ent (mx M') as) [] h with
            | none => rw [h1] at hE; cases hE
            | some R1 =>
              rw [h1] at hE
              obtain ⟨v1, h1'⟩ := R1
              have hE : ex n (d + 1) M f.1 f.2.1 (v1.toList ++ f.2.2) h1' = some (v, h') := hE
              have hsz1 := ex_size _ _ _ _ _ _ _ _ _ h1
              have hsz2 := ex_size _ _ _ _ _ _ _ _ _ hE
              have hM' : M' < nM := call_lt hok hsi (ex_ins h1)
              have hf : f.2.1 = lo := stpH_call_lo hsi
              have hcm : cats as ≤ mx M' := stpH_call_cats hsi
              have hmx : mx M' ≤ 40 := mx_le hM'
              have hmet : Met l (nmM M') (wsM M') { frames := d, cells := h1'.1 - h.1, slots := h1'.2.1 - h.2.1, locals := 64 * d } (PcM b B dC dI dA as h) (mQ b B dC dI dA v1 h1') (h1'.1 - h.1) (h1'.2.1 - h.2.1) (fun q => B ≤ q) := by
                refine va_MetF (cc := cod M') (maxL := mx M') (ret := rtM M') (nm_plain hM') rfl ?_
                intro p e s m args below meth c s₁ Bd hml hv
                obtain ⟨rfl, hRH, hK, hStr⟩ := hv
                have hts := atoms_spec (ws := wsM M') Bd.pre
                have hC : mCt B dC dI dA p s m (as.map (up b B)).toArray meth c M' := ⟨Bd.exec, Bd.bytes, hml, findClass_of_methodNamed Bd.named, fun w hw => hts w (List.mem_cons_of_mem _ hw), (name_of_methodNamed Bd.named Bd.method).1, hK, hStr⟩
                have hl := lv_entry (as.map (up b B)) (n := mx M') (by rw [lg_sl_len]; exact hcm)
                rw [lg_entry_eq]
                generalize (lg_sl (as.map (up b B)) ++ List.replicate (mx M' - (lg_sl (as.map (up b B))).length) Slot.unset).toArray = ls0 at hl ⊢
                refine ih d M' 0 (ent (mx M') as) [] h v1 h1' h1 p e _ s m _ below meth c _ h.1 h.2.1 hC (by show h1'.1 ≤ h1'.1 - h.1 + h.1; omega) (by show h1'.2.1 ≤ h1'.2.1 - h.2.1 + h.2.1; omega) (Nat.le_refl _) (Nat.le_refl _) ?_ s.heap [] 0 0 ls0 hRH (RL_ent hcm hl) (ent_len hcm) va_S.rf (Nat.zero_add _) (Nat.zero_add _)
                intro pc' lo' ls' st' H' locs' cells' slots' hst hRH' hS' e1 e2
                have e3 : h1'.1 - h.1 = cells' := by omega
                have e4 : h1'.2.1 - h.2.1 = slots' := by omega
                rw [e3, e4]
                exact w_ret hC Bd.notSynchronized Bd.returns hst (fun t ht hW => ⟨⟨rfl, by rw [ht]; exact RH.moved hW.alike hRH'⟩, hS'.F ht⟩) hS'.2.2
              refine (w_inv C hR hS hd hok hsi hls hM' hmet rfl rfl (by show d + 1 ≤ R.frames; exact hfr) (by show 8 + (mx M' + 11) + 64 * d ≤ R.locals; omega) ⟨by omega, by omega⟩ ?_).2
              intro H1 locs1 a1 a2
              exact ih _ _ _ _ _ _ _ _ hE p e R s m args below meth c Q z0 z1 C hr0 hr1 hfr hlo hret H1 locs1 _ _ ls a1 (by rw [hf]; exact hL) (by rw [hf]; exact hlen) a2 (by omega) (by omega)
      · rw [ex_ret hs] at hE
        cases hE
        exact hret pc lo ls st H locs cells slots hs hR hS hz0 hz1
end MSIM
end
