section
-- ===== PART A: goes FIRST, ahead of the names: the tables' words, and 'selects' of the private methods out of them =====
/-- a private method of a class that the tables say can be made, by its rows of tables_1 -/
def lw_okq (q : MethodName × Nat) : Prop := (q.1.cls ≠ "java/lang/invoke/MethodHandle" ∧ q.1.cls ≠ "java/lang/invoke/VarHandle") ∧ Cond.instantiable q.1.cls q.2 ∈ tables_1 ∧ Cond.privateMethod q.1 ∈ tables_1 ∧ Cond.instanceMethod q.1 ∈ tables_1
theorem lw_p0 : lw_okq (⟨"WasmCore$Machine", "control", "(II)I"⟩, 12) := ⟨⟨by decide +kernel, by decide +kernel⟩, List.mem_of_getElem? (i := 152) (by decide +kernel), List.mem_of_getElem? (i := 280) (by decide +kernel), List.mem_of_getElem? (i := 281) (by decide +kernel)⟩
theorem lw_p1 : lw_okq (⟨"WasmCore$Machine", "pop", "()I"⟩, 12) := ⟨⟨by decide +kernel, by decide +kernel⟩, List.mem_of_getElem? (i := 152) (by decide +kernel), List.mem_of_getElem? (i := 284) (by decide +kernel), List.mem_of_getElem? (i := 285) (by decide +kernel)⟩
theorem lw_p2 : lw_okq (⟨"WasmCore$Machine", "passOver", "(I)I"⟩, 12) := ⟨⟨by decide +kernel, by decide +kernel⟩, List.mem_of_getElem? (i := 152) (by decide +kernel), List.mem_of_getElem? (i := 288) (by decide +kernel), List.mem_of_getElem? (i := 289) (by decide +kernel)⟩
theorem lw_p3 : lw_okq (⟨"WasmCore$Machine", "leave", "()I"⟩, 12) := ⟨⟨by decide +kernel, by decide +kernel⟩, List.mem_of_getElem? (i := 152) (by decide +kernel), List.mem_of_getElem? (i := 292) (by decide +kernel), List.mem_of_getElem? (i := 293) (by decide +kernel)⟩
theorem lw_p4 : lw_okq (⟨"WasmCore$Machine", "fallTo", "(II)V"⟩, 12) := ⟨⟨by decide +kernel, by decide +kernel⟩, List.mem_of_getElem? (i := 152) (by decide +kernel), List.mem_of_getElem? (i := 296) (by decide +kernel), List.mem_of_getElem? (i := 297) (by decide +kernel)⟩
theorem lw_p5 : lw_okq (⟨"WasmCore$Machine", "branch", "(I)I"⟩, 12) := ⟨⟨by decide +kernel, by decide +kernel⟩, List.mem_of_getElem? (i := 152) (by decide +kernel), List.mem_of_getElem? (i := 300) (by decide +kernel), List.mem_of_getElem? (i := 301) (by decide +kernel)⟩
theorem lw_p6 : lw_okq (⟨"WasmCore$Machine", "enter", "(I)I"⟩, 12) := ⟨⟨by decide +kernel, by decide +kernel⟩, List.mem_of_getElem? (i := 152) (by decide +kernel), List.mem_of_getElem? (i := 314) (by decide +kernel), List.mem_of_getElem? (i := 315) (by decide +kernel)⟩
theorem lw_p7 : lw_okq (⟨"WasmCore$Machine", "localPlace", "(I)I"⟩, 12) := ⟨⟨by decide +kernel, by decide +kernel⟩, List.mem_of_getElem? (i := 152) (by decide +kernel), List.mem_of_getElem? (i := 318) (by decide +kernel), List.mem_of_getElem? (i := 319) (by decide +kernel)⟩
theorem lw_p8 : lw_okq (⟨"WasmCore$Machine", "move", "(II)I"⟩, 12) := ⟨⟨by decide +kernel, by decide +kernel⟩, List.mem_of_getElem? (i := 152) (by decide +kernel), List.mem_of_getElem? (i := 335) (by decide +kernel), List.mem_of_getElem? (i := 336) (by decide +kernel)⟩
theorem lw_p9 : lw_okq (⟨"WasmCore$Machine", "select", "()I"⟩, 12) := ⟨⟨by decide +kernel, by decide +kernel⟩, List.mem_of_getElem? (i := 152) (by decide +kernel), List.mem_of_getElem? (i := 339) (by decide +kernel), List.mem_of_getElem? (i := 340) (by decide +kernel)⟩
theorem lw_p10 : lw_okq (⟨"WasmCore$Machine", "push", "(I)I"⟩, 12) := ⟨⟨by decide +kernel, by decide +kernel⟩, List.mem_of_getElem? (i := 152) (by decide +kernel), List.mem_of_getElem? (i := 343) (by decide +kernel), List.mem_of_getElem? (i := 344) (by decide +kernel)⟩
theorem lw_p11 : lw_okq (⟨"WasmCore$Machine", "useMemory", "(II)I"⟩, 12) := ⟨⟨by decide +kernel, by decide +kernel⟩, List.mem_of_getElem? (i := 152) (by decide +kernel), List.mem_of_getElem? (i := 347) (by decide +kernel), List.mem_of_getElem? (i := 348) (by decide +kernel)⟩
theorem lw_p12 : lw_okq (⟨"WasmCore$Machine", "store", "(II)I"⟩, 12) := ⟨⟨by decide +kernel, by decide +kernel⟩, List.mem_of_getElem? (i := 152) (by decide +kernel), List.mem_of_getElem? (i := 359) (by decide +kernel), List.mem_of_getElem? (i := 360) (by decide +kernel)⟩
theorem lw_p13 : lw_okq (⟨"WasmCore$Machine", "load", "(II)I"⟩, 12) := ⟨⟨by decide +kernel, by decide +kernel⟩, List.mem_of_getElem? (i := 152) (by decide +kernel), List.mem_of_getElem? (i := 375) (by decide +kernel), List.mem_of_getElem? (i := 376) (by decide +kernel)⟩
theorem lw_p14 : lw_okq (⟨"WasmCore$Machine", "calculate", "(I)I"⟩, 12) := ⟨⟨by decide +kernel, by decide +kernel⟩, List.mem_of_getElem? (i := 152) (by decide +kernel), List.mem_of_getElem? (i := 383) (by decide +kernel), List.mem_of_getElem? (i := 384) (by decide +kernel)⟩
theorem lw_p15 : lw_okq (⟨"WasmCore$Machine", "divide", "(III)I"⟩, 12) := ⟨⟨by decide +kernel, by decide +kernel⟩, List.mem_of_getElem? (i := 152) (by decide +kernel), List.mem_of_getElem? (i := 409) (by decide +kernel), List.mem_of_getElem? (i := 410) (by decide +kernel)⟩
def lw_privs_1 : List (MethodName × Nat) := [(⟨"WasmCore$Machine", "control", "(II)I"⟩, 12), (⟨"WasmCore$Machine", "pop", "()I"⟩, 12), (⟨"WasmCore$Machine", "passOver", "(I)I"⟩, 12), (⟨"WasmCore$Machine", "leave", "()I"⟩, 12), (⟨"WasmCore$Machine", "fallTo", "(II)V"⟩, 12), (⟨"WasmCore$Machine", "branch", "(I)I"⟩, 12), (⟨"WasmCore$Machine", "enter", "(I)I"⟩, 12), (⟨"WasmCore$Machine", "localPlace", "(I)I"⟩, 12), (⟨"WasmCore$Machine", "move", "(II)I"⟩, 12), (⟨"WasmCore$Machine", "select", "()I"⟩, 12), (⟨"WasmCore$Machine", "push", "(I)I"⟩, 12), (⟨"WasmCore$Machine", "useMemory", "(II)I"⟩, 12), (⟨"WasmCore$Machine", "store", "(II)I"⟩, 12), (⟨"WasmCore$Machine", "load", "(II)I"⟩, 12), (⟨"WasmCore$Machine", "calculate", "(I)I"⟩, 12), (⟨"WasmCore$Machine", "divide", "(III)I"⟩, 12)]
theorem lw_r1 : ∀ q ∈ lw_privs_1, lw_okq q := List.forall_mem_cons.mpr ⟨lw_p0, List.forall_mem_cons.mpr ⟨lw_p1, List.forall_mem_cons.mpr ⟨lw_p2, List.forall_mem_cons.mpr ⟨lw_p3, List.forall_mem_cons.mpr ⟨lw_p4, List.forall_mem_cons.mpr ⟨lw_p5, List.forall_mem_cons.mpr ⟨lw_p6, List.forall_mem_cons.mpr ⟨lw_p7, List.forall_mem_cons.mpr ⟨lw_p8, List.forall_mem_cons.mpr ⟨lw_p9, List.forall_mem_cons.mpr ⟨lw_p10, List.forall_mem_cons.mpr ⟨lw_p11, List.forall_mem_cons.mpr ⟨lw_p12, List.forall_mem_cons.mpr ⟨lw_p13, List.forall_mem_cons.mpr ⟨lw_p14, List.forall_mem_cons.mpr ⟨lw_p15, fun _ h => absurd h List.not_mem_nil⟩⟩⟩⟩⟩⟩⟩⟩⟩⟩⟩⟩⟩⟩⟩⟩
theorem lw_p16 : lw_okq (⟨"WasmCore$Machine", "replaceTwo", "(I)I"⟩, 12) := ⟨⟨by decide +kernel, by decide +kernel⟩, List.mem_of_getElem? (i := 152) (by decide +kernel), List.mem_of_getElem? (i := 418) (by decide +kernel), List.mem_of_getElem? (i := 419) (by decide +kernel)⟩
theorem lw_p17 : lw_okq (⟨"WasmCore", "heed", "(I)V"⟩, 10) := ⟨⟨by decide +kernel, by decide +kernel⟩, List.mem_of_getElem? (i := 19) (by decide +kernel), List.mem_of_getElem? (i := 432) (by decide +kernel), List.mem_of_getElem? (i := 433) (by decide +kernel)⟩
theorem lw_p18 : lw_okq (⟨"java/lang/Throwable", "fillInStackTrace", "(I)Ljava/lang/Throwable;"⟩, 6) := ⟨⟨by decide +kernel, by decide +kernel⟩, List.mem_of_getElem? (i := 502) (by decide +kernel), List.mem_of_getElem? (i := 500) (by decide +kernel), List.mem_of_getElem? (i := 501) (by decide +kernel)⟩
theorem lw_p19 : lw_okq (⟨"WasmCore$Checker", "checkBody", "(I)V"⟩, 12) := ⟨⟨by decide +kernel, by decide +kernel⟩, List.mem_of_getElem? (i := 106) (by decide +kernel), List.mem_of_getElem? (i := 600) (by decide +kernel), List.mem_of_getElem? (i := 601) (by decide +kernel)⟩
theorem lw_p20 : lw_okq (⟨"WasmCore$Checker", "openFrame", "(III)V"⟩, 12) := ⟨⟨by decide +kernel, by decide +kernel⟩, List.mem_of_getElem? (i := 106) (by decide +kernel), List.mem_of_getElem? (i := 605) (by decide +kernel), List.mem_of_getElem? (i := 606) (by decide +kernel)⟩
theorem lw_p21 : lw_okq (⟨"WasmCore$Checker", "fail", "(I)V"⟩, 12) := ⟨⟨by decide +kernel, by decide +kernel⟩, List.mem_of_getElem? (i := 106) (by decide +kernel), List.mem_of_getElem? (i := 609) (by decide +kernel), List.mem_of_getElem? (i := 610) (by decide +kernel)⟩
theorem lw_p22 : lw_okq (⟨"WasmCore$Checker", "checkImmediates", "(I)V"⟩, 12) := ⟨⟨by decide +kernel, by decide +kernel⟩, List.mem_of_getElem? (i := 106) (by decide +kernel), List.mem_of_getElem? (i := 614) (by decide +kernel), List.mem_of_getElem? (i := 615) (by decide +kernel)⟩
theorem lw_p23 : lw_okq (⟨"WasmCore$Checker", "immediate", "()I"⟩, 12) := ⟨⟨by decide +kernel, by decide +kernel⟩, List.mem_of_getElem? (i := 106) (by decide +kernel), List.mem_of_getElem? (i := 618) (by decide +kernel), List.mem_of_getElem? (i := 619) (by decide +kernel)⟩
theorem lw_p24 : lw_okq (⟨"WasmCore$Checker", "checkTable", "(I)V"⟩, 12) := ⟨⟨by decide +kernel, by decide +kernel⟩, List.mem_of_getElem? (i := 106) (by decide +kernel), List.mem_of_getElem? (i := 622) (by decide +kernel), List.mem_of_getElem? (i := 623) (by decide +kernel)⟩
theorem lw_p25 : lw_okq (⟨"WasmCore$Checker", "checkLabel", "(I)V"⟩, 12) := ⟨⟨by decide +kernel, by decide +kernel⟩, List.mem_of_getElem? (i := 106) (by decide +kernel), List.mem_of_getElem? (i := 626) (by decide +kernel), List.mem_of_getElem? (i := 627) (by decide +kernel)⟩
theorem lw_p26 : lw_okq (⟨"WasmCore$Checker", "isAllowed", "(II)Z"⟩, 12) := ⟨⟨by decide +kernel, by decide +kernel⟩, List.mem_of_getElem? (i := 106) (by decide +kernel), List.mem_of_getElem? (i := 630) (by decide +kernel), List.mem_of_getElem? (i := 631) (by decide +kernel)⟩
theorem lw_p27 : lw_okq (⟨"WasmCore$Checker", "checkTyping", "(I)V"⟩, 12) := ⟨⟨by decide +kernel, by decide +kernel⟩, List.mem_of_getElem? (i := 106) (by decide +kernel), List.mem_of_getElem? (i := 638) (by decide +kernel), List.mem_of_getElem? (i := 639) (by decide +kernel)⟩
theorem lw_p28 : lw_okq (⟨"WasmCore$Checker", "leaveOff", "()V"⟩, 12) := ⟨⟨by decide +kernel, by decide +kernel⟩, List.mem_of_getElem? (i := 106) (by decide +kernel), List.mem_of_getElem? (i := 642) (by decide +kernel), List.mem_of_getElem? (i := 643) (by decide +kernel)⟩
theorem lw_p29 : lw_okq (⟨"WasmCore$Checker", "popValues", "(I)V"⟩, 12) := ⟨⟨by decide +kernel, by decide +kernel⟩, List.mem_of_getElem? (i := 106) (by decide +kernel), List.mem_of_getElem? (i := 646) (by decide +kernel), List.mem_of_getElem? (i := 647) (by decide +kernel)⟩
theorem lw_p30 : lw_okq (⟨"WasmCore$Checker", "checkElse", "()V"⟩, 12) := ⟨⟨by decide +kernel, by decide +kernel⟩, List.mem_of_getElem? (i := 106) (by decide +kernel), List.mem_of_getElem? (i := 650) (by decide +kernel), List.mem_of_getElem? (i := 651) (by decide +kernel)⟩
theorem lw_p31 : lw_okq (⟨"WasmCore$Checker", "closeHeight", "(I)V"⟩, 12) := ⟨⟨by decide +kernel, by decide +kernel⟩, List.mem_of_getElem? (i := 106) (by decide +kernel), List.mem_of_getElem? (i := 654) (by decide +kernel), List.mem_of_getElem? (i := 655) (by decide +kernel)⟩
def lw_privs_2 : List (MethodName × Nat) := [(⟨"WasmCore$Machine", "replaceTwo", "(I)I"⟩, 12), (⟨"WasmCore", "heed", "(I)V"⟩, 10), (⟨"java/lang/Throwable", "fillInStackTrace", "(I)Ljava/lang/Throwable;"⟩, 6), (⟨"WasmCore$Checker", "checkBody", "(I)V"⟩, 12), (⟨"WasmCore$Checker", "openFrame", "(III)V"⟩, 12), (⟨"WasmCore$Checker", "fail", "(I)V"⟩, 12), (⟨"WasmCore$Checker", "checkImmediates", "(I)V"⟩, 12), (⟨"WasmCore$Checker", "immediate", "()I"⟩, 12), (⟨"WasmCore$Checker", "checkTable", "(I)V"⟩, 12), (⟨"WasmCore$Checker", "checkLabel", "(I)V"⟩, 12), (⟨"WasmCore$Checker", "isAllowed", "(II)Z"⟩, 12), (⟨"WasmCore$Checker", "checkTyping", "(I)V"⟩, 12), (⟨"WasmCore$Checker", "leaveOff", "()V"⟩, 12), (⟨"WasmCore$Checker", "popValues", "(I)V"⟩, 12), (⟨"WasmCore$Checker", "checkElse", "()V"⟩, 12), (⟨"WasmCore$Checker", "closeHeight", "(I)V"⟩, 12)]
theorem lw_r2 : ∀ q ∈ lw_privs_2, lw_okq q := List.forall_mem_cons.mpr ⟨lw_p16, List.forall_mem_cons.mpr ⟨lw_p17, List.forall_mem_cons.mpr ⟨lw_p18, List.forall_mem_cons.mpr ⟨lw_p19, List.forall_mem_cons.mpr ⟨lw_p20, List.forall_mem_cons.mpr ⟨lw_p21, List.forall_mem_cons.mpr ⟨lw_p22, List.forall_mem_cons.mpr ⟨lw_p23, List.forall_mem_cons.mpr ⟨lw_p24, List.forall_mem_cons.mpr ⟨lw_p25, List.forall_mem_cons.mpr ⟨lw_p26, List.forall_mem_cons.mpr ⟨lw_p27, List.forall_mem_cons.mpr ⟨lw_p28, List.forall_mem_cons.mpr ⟨lw_p29, List.forall_mem_cons.mpr ⟨lw_p30, List.forall_mem_cons.mpr ⟨lw_p31, fun _ h => absurd h List.not_mem_nil⟩⟩⟩⟩⟩⟩⟩⟩⟩⟩⟩⟩⟩⟩⟩⟩
theorem lw_p32 : lw_okq (⟨"WasmCore$Checker", "checkEnd", "()V"⟩, 12) := ⟨⟨by decide +kernel, by decide +kernel⟩, List.mem_of_getElem? (i := 106) (by decide +kernel), List.mem_of_getElem? (i := 658) (by decide +kernel), List.mem_of_getElem? (i := 659) (by decide +kernel)⟩
theorem lw_p33 : lw_okq (⟨"WasmCore$Checker", "noteEnd", "(I)V"⟩, 12) := ⟨⟨by decide +kernel, by decide +kernel⟩, List.mem_of_getElem? (i := 106) (by decide +kernel), List.mem_of_getElem? (i := 662) (by decide +kernel), List.mem_of_getElem? (i := 663) (by decide +kernel)⟩
theorem lw_p34 : lw_okq (⟨"WasmCore$Checker", "pushValues", "(I)V"⟩, 12) := ⟨⟨by decide +kernel, by decide +kernel⟩, List.mem_of_getElem? (i := 106) (by decide +kernel), List.mem_of_getElem? (i := 666) (by decide +kernel), List.mem_of_getElem? (i := 667) (by decide +kernel)⟩
theorem lw_p35 : lw_okq (⟨"WasmCore$Checker", "takenByLabel", "(I)I"⟩, 12) := ⟨⟨by decide +kernel, by decide +kernel⟩, List.mem_of_getElem? (i := 106) (by decide +kernel), List.mem_of_getElem? (i := 670) (by decide +kernel), List.mem_of_getElem? (i := 671) (by decide +kernel)⟩
theorem lw_p36 : lw_okq (⟨"WasmCore$Checker", "exchange", "(II)V"⟩, 12) := ⟨⟨by decide +kernel, by decide +kernel⟩, List.mem_of_getElem? (i := 106) (by decide +kernel), List.mem_of_getElem? (i := 674) (by decide +kernel), List.mem_of_getElem? (i := 675) (by decide +kernel)⟩
theorem lw_p37 : lw_okq (⟨"WasmCore$Checker", "checkTableTyping", "(I)V"⟩, 12) := ⟨⟨by decide +kernel, by decide +kernel⟩, List.mem_of_getElem? (i := 106) (by decide +kernel), List.mem_of_getElem? (i := 678) (by decide +kernel), List.mem_of_getElem? (i := 679) (by decide +kernel)⟩
theorem lw_p38 : lw_okq (⟨"WasmCore", "countOf", "(I)I"⟩, 10) := ⟨⟨by decide +kernel, by decide +kernel⟩, List.mem_of_getElem? (i := 19) (by decide +kernel), List.mem_of_getElem? (i := 736) (by decide +kernel), List.mem_of_getElem? (i := 737) (by decide +kernel)⟩
theorem lw_p39 : lw_okq (⟨"WasmCoreModel", "checkFunction", "(I)I"⟩, 41) := ⟨⟨by decide +kernel, by decide +kernel⟩, List.mem_of_getElem? (i := 749) (by decide +kernel), List.mem_of_getElem? (i := 903) (by decide +kernel), List.mem_of_getElem? (i := 904) (by decide +kernel)⟩
theorem lw_p40 : lw_okq (⟨"WasmCoreModel", "open", "(III)V"⟩, 41) := ⟨⟨by decide +kernel, by decide +kernel⟩, List.mem_of_getElem? (i := 749) (by decide +kernel), List.mem_of_getElem? (i := 907) (by decide +kernel), List.mem_of_getElem? (i := 908) (by decide +kernel)⟩
theorem lw_p41 : lw_okq (⟨"WasmCoreModel", "fail", "(I)V"⟩, 41) := ⟨⟨by decide +kernel, by decide +kernel⟩, List.mem_of_getElem? (i := 749) (by decide +kernel), List.mem_of_getElem? (i := 911) (by decide +kernel), List.mem_of_getElem? (i := 912) (by decide +kernel)⟩
theorem lw_p42 : lw_okq (⟨"WasmCoreModel", "flaw", "(II)I"⟩, 41) := ⟨⟨by decide +kernel, by decide +kernel⟩, List.mem_of_getElem? (i := 749) (by decide +kernel), List.mem_of_getElem? (i := 915) (by decide +kernel), List.mem_of_getElem? (i := 916) (by decide +kernel)⟩
theorem lw_p43 : lw_okq (⟨"WasmCoreModel", "suits", "(III)Z"⟩, 41) := ⟨⟨by decide +kernel, by decide +kernel⟩, List.mem_of_getElem? (i := 749) (by decide +kernel), List.mem_of_getElem? (i := 925) (by decide +kernel), List.mem_of_getElem? (i := 926) (by decide +kernel)⟩
theorem lw_p44 : lw_okq (⟨"WasmCoreModel", "isLabel", "(I)Z"⟩, 41) := ⟨⟨by decide +kernel, by decide +kernel⟩, List.mem_of_getElem? (i := 749) (by decide +kernel), List.mem_of_getElem? (i := 929) (by decide +kernel), List.mem_of_getElem? (i := 930) (by decide +kernel)⟩
theorem lw_p45 : lw_okq (⟨"WasmCoreModel", "check", "(II)V"⟩, 41) := ⟨⟨by decide +kernel, by decide +kernel⟩, List.mem_of_getElem? (i := 749) (by decide +kernel), List.mem_of_getElem? (i := 933) (by decide +kernel), List.mem_of_getElem? (i := 934) (by decide +kernel)⟩
theorem lw_p46 : lw_okq (⟨"WasmCoreModel", "pop", "(I)V"⟩, 41) := ⟨⟨by decide +kernel, by decide +kernel⟩, List.mem_of_getElem? (i := 749) (by decide +kernel), List.mem_of_getElem? (i := 937) (by decide +kernel), List.mem_of_getElem? (i := 938) (by decide +kernel)⟩
theorem lw_p47 : lw_okq (⟨"WasmCoreModel", "checkElse", "(I)V"⟩, 41) := ⟨⟨by decide +kernel, by decide +kernel⟩, List.mem_of_getElem? (i := 749) (by decide +kernel), List.mem_of_getElem? (i := 941) (by decide +kernel), List.mem_of_getElem? (i := 942) (by decide +kernel)⟩
def lw_privs_3 : List (MethodName × Nat) := [(⟨"WasmCore$Checker", "checkEnd", "()V"⟩, 12), (⟨"WasmCore$Checker", "noteEnd", "(I)V"⟩, 12), (⟨"WasmCore$Checker", "pushValues", "(I)V"⟩, 12), (⟨"WasmCore$Checker", "takenByLabel", "(I)I"⟩, 12), (⟨"WasmCore$Checker", "exchange", "(II)V"⟩, 12), (⟨"WasmCore$Checker", "checkTableTyping", "(I)V"⟩, 12), (⟨"WasmCore", "countOf", "(I)I"⟩, 10), (⟨"WasmCoreModel", "checkFunction", "(I)I"⟩, 41), (⟨"WasmCoreModel", "open", "(III)V"⟩, 41), (⟨"WasmCoreModel", "fail", "(I)V"⟩, 41), (⟨"WasmCoreModel", "flaw", "(II)I"⟩, 41), (⟨"WasmCoreModel", "suits", "(III)Z"⟩, 41), (⟨"WasmCoreModel", "isLabel", "(I)Z"⟩, 41), (⟨"WasmCoreModel", "check", "(II)V"⟩, 41), (⟨"WasmCoreModel", "pop", "(I)V"⟩, 41), (⟨"WasmCoreModel", "checkElse", "(I)V"⟩, 41)]
theorem lw_r3 : ∀ q ∈ lw_privs_3, lw_okq q := List.forall_mem_cons.mpr ⟨lw_p32, List.forall_mem_cons.mpr ⟨lw_p33, List.forall_mem_cons.mpr ⟨lw_p34, List.forall_mem_cons.mpr ⟨lw_p35, List.forall_mem_cons.mpr ⟨lw_p36, List.forall_mem_cons.mpr ⟨lw_p37, List.forall_mem_cons.mpr ⟨lw_p38, List.forall_mem_cons.mpr ⟨lw_p39, List.forall_mem_cons.mpr ⟨lw_p40, List.forall_mem_cons.mpr ⟨lw_p41, List.forall_mem_cons.mpr ⟨lw_p42, List.forall_mem_cons.mpr ⟨lw_p43, List.forall_mem_cons.mpr ⟨lw_p44, List.forall_mem_cons.mpr ⟨lw_p45, List.forall_mem_cons.mpr ⟨lw_p46, List.forall_mem_cons.mpr ⟨lw_p47, fun _ h => absurd h List.not_mem_nil⟩⟩⟩⟩⟩⟩⟩⟩⟩⟩⟩⟩⟩⟩⟩⟩
theorem lw_p48 : lw_okq (⟨"WasmCoreModel", "checkEnd", "(II)V"⟩, 41) := ⟨⟨by decide +kernel, by decide +kernel⟩, List.mem_of_getElem? (i := 749) (by decide +kernel), List.mem_of_getElem? (i := 945) (by decide +kernel), List.mem_of_getElem? (i := 946) (by decide +kernel)⟩
theorem lw_p49 : lw_okq (⟨"WasmCoreModel", "push", "(I)V"⟩, 41) := ⟨⟨by decide +kernel, by decide +kernel⟩, List.mem_of_getElem? (i := 749) (by decide +kernel), List.mem_of_getElem? (i := 949) (by decide +kernel), List.mem_of_getElem? (i := 950) (by decide +kernel)⟩
theorem lw_p50 : lw_okq (⟨"WasmCoreModel", "outer", "(II)I"⟩, 41) := ⟨⟨by decide +kernel, by decide +kernel⟩, List.mem_of_getElem? (i := 749) (by decide +kernel), List.mem_of_getElem? (i := 953) (by decide +kernel), List.mem_of_getElem? (i := 954) (by decide +kernel)⟩
theorem lw_p51 : lw_okq (⟨"WasmCoreModel", "takes", "(I)I"⟩, 41) := ⟨⟨by decide +kernel, by decide +kernel⟩, List.mem_of_getElem? (i := 749) (by decide +kernel), List.mem_of_getElem? (i := 957) (by decide +kernel), List.mem_of_getElem? (i := 958) (by decide +kernel)⟩
theorem lw_p52 : lw_okq (⟨"WasmCoreModel", "leave", "()V"⟩, 41) := ⟨⟨by decide +kernel, by decide +kernel⟩, List.mem_of_getElem? (i := 749) (by decide +kernel), List.mem_of_getElem? (i := 961) (by decide +kernel), List.mem_of_getElem? (i := 962) (by decide +kernel)⟩
theorem lw_p53 : lw_okq (⟨"WasmCoreModel", "checkTable", "(I)V"⟩, 41) := ⟨⟨by decide +kernel, by decide +kernel⟩, List.mem_of_getElem? (i := 749) (by decide +kernel), List.mem_of_getElem? (i := 965) (by decide +kernel), List.mem_of_getElem? (i := 966) (by decide +kernel)⟩
theorem lw_p54 : lw_okq (⟨"WasmCoreModel", "length", "(I)I"⟩, 41) := ⟨⟨by decide +kernel, by decide +kernel⟩, List.mem_of_getElem? (i := 749) (by decide +kernel), List.mem_of_getElem? (i := 975) (by decide +kernel), List.mem_of_getElem? (i := 976) (by decide +kernel)⟩
theorem lw_p55 : lw_okq (⟨"WasmCoreModel", "enter", "(II)V"⟩, 41) := ⟨⟨by decide +kernel, by decide +kernel⟩, List.mem_of_getElem? (i := 749) (by decide +kernel), List.mem_of_getElem? (i := 991) (by decide +kernel), List.mem_of_getElem? (i := 992) (by decide +kernel)⟩
theorem lw_p56 : lw_okq (⟨"WasmCoreModel", "step", "()V"⟩, 41) := ⟨⟨by decide +kernel, by decide +kernel⟩, List.mem_of_getElem? (i := 749) (by decide +kernel), List.mem_of_getElem? (i := 999) (by decide +kernel), List.mem_of_getElem? (i := 1000) (by decide +kernel)⟩
theorem lw_p57 : lw_okq (⟨"WasmCoreModel", "trapOf", "(I)I"⟩, 41) := ⟨⟨by decide +kernel, by decide +kernel⟩, List.mem_of_getElem? (i := 749) (by decide +kernel), List.mem_of_getElem? (i := 1003) (by decide +kernel), List.mem_of_getElem? (i := 1004) (by decide +kernel)⟩
theorem lw_p58 : lw_okq (⟨"WasmCoreModel", "place", "(II)I"⟩, 41) := ⟨⟨by decide +kernel, by decide +kernel⟩, List.mem_of_getElem? (i := 749) (by decide +kernel), List.mem_of_getElem? (i := 1014) (by decide +kernel), List.mem_of_getElem? (i := 1015) (by decide +kernel)⟩
theorem lw_p59 : lw_okq (⟨"WasmCoreModel", "goes", "(II)V"⟩, 41) := ⟨⟨by decide +kernel, by decide +kernel⟩, List.mem_of_getElem? (i := 749) (by decide +kernel), List.mem_of_getElem? (i := 1022) (by decide +kernel), List.mem_of_getElem? (i := 1023) (by decide +kernel)⟩
theorem lw_p60 : lw_okq (⟨"WasmCoreModel", "comeBack", "()V"⟩, 41) := ⟨⟨by decide +kernel, by decide +kernel⟩, List.mem_of_getElem? (i := 749) (by decide +kernel), List.mem_of_getElem? (i := 1026) (by decide +kernel), List.mem_of_getElem? (i := 1027) (by decide +kernel)⟩
theorem lw_p61 : lw_okq (⟨"WasmCoreModel", "fall", "(II)V"⟩, 41) := ⟨⟨by decide +kernel, by decide +kernel⟩, List.mem_of_getElem? (i := 749) (by decide +kernel), List.mem_of_getElem? (i := 1030) (by decide +kernel), List.mem_of_getElem? (i := 1031) (by decide +kernel)⟩
theorem lw_p62 : lw_okq (⟨"WasmCoreModel", "branch", "(I)V"⟩, 41) := ⟨⟨by decide +kernel, by decide +kernel⟩, List.mem_of_getElem? (i := 749) (by decide +kernel), List.mem_of_getElem? (i := 1034) (by decide +kernel), List.mem_of_getElem? (i := 1035) (by decide +kernel)⟩
theorem lw_p63 : lw_okq (⟨"WasmCoreModel", "table", "()V"⟩, 41) := ⟨⟨by decide +kernel, by decide +kernel⟩, List.mem_of_getElem? (i := 749) (by decide +kernel), List.mem_of_getElem? (i := 1038) (by decide +kernel), List.mem_of_getElem? (i := 1039) (by decide +kernel)⟩
def lw_privs_4 : List (MethodName × Nat) := [(⟨"WasmCoreModel", "checkEnd", "(II)V"⟩, 41), (⟨"WasmCoreModel", "push", "(I)V"⟩, 41), (⟨"WasmCoreModel", "outer", "(II)I"⟩, 41), (⟨"WasmCoreModel", "takes", "(I)I"⟩, 41), (⟨"WasmCoreModel", "leave", "()V"⟩, 41), (⟨"WasmCoreModel", "checkTable", "(I)V"⟩, 41), (⟨"WasmCoreModel", "length", "(I)I"⟩, 41), (⟨"WasmCoreModel", "enter", "(II)V"⟩, 41), (⟨"WasmCoreModel", "step", "()V"⟩, 41), (⟨"WasmCoreModel", "trapOf", "(I)I"⟩, 41), (⟨"WasmCoreModel", "place", "(II)I"⟩, 41), (⟨"WasmCoreModel", "goes", "(II)V"⟩, 41), (⟨"WasmCoreModel", "comeBack", "()V"⟩, 41), (⟨"WasmCoreModel", "fall", "(II)V"⟩, 41), (⟨"WasmCoreModel", "branch", "(I)V"⟩, 41), (⟨"WasmCoreModel", "table", "()V"⟩, 41)]
theorem lw_r4 : ∀ q ∈ lw_privs_4, lw_okq q := List.forall_mem_cons.mpr ⟨lw_p48, List.forall_mem_cons.mpr ⟨lw_p49, List.forall_mem_cons.mpr ⟨lw_p50, List.forall_mem_cons.mpr ⟨lw_p51, List.forall_mem_cons.mpr ⟨lw_p52, List.forall_mem_cons.mpr ⟨lw_p53, List.forall_mem_cons.mpr ⟨lw_p54, List.forall_mem_cons.mpr ⟨lw_p55, List.forall_mem_cons.mpr ⟨lw_p56, List.forall_mem_cons.mpr ⟨lw_p57, List.forall_mem_cons.mpr ⟨lw_p58, List.forall_mem_cons.mpr ⟨lw_p59, List.forall_mem_cons.mpr ⟨lw_p60, List.forall_mem_cons.mpr ⟨lw_p61, List.forall_mem_cons.mpr ⟨lw_p62, List.forall_mem_cons.mpr ⟨lw_p63, fun _ h => absurd h List.not_mem_nil⟩⟩⟩⟩⟩⟩⟩⟩⟩⟩⟩⟩⟩⟩⟩⟩
theorem lw_p64 : lw_okq (⟨"WasmCoreModel", "plain", "(II)V"⟩, 41) := ⟨⟨by decide +kernel, by decide +kernel⟩, List.mem_of_getElem? (i := 749) (by decide +kernel), List.mem_of_getElem? (i := 1042) (by decide +kernel), List.mem_of_getElem? (i := 1043) (by decide +kernel)⟩
theorem lw_p65 : lw_okq (⟨"WasmCoreModel", "store", "(II)V"⟩, 41) := ⟨⟨by decide +kernel, by decide +kernel⟩, List.mem_of_getElem? (i := 749) (by decide +kernel), List.mem_of_getElem? (i := 1046) (by decide +kernel), List.mem_of_getElem? (i := 1047) (by decide +kernel)⟩
theorem lw_p66 : lw_okq (⟨"WasmCoreModel", "one", "(II)V"⟩, 41) := ⟨⟨by decide +kernel, by decide +kernel⟩, List.mem_of_getElem? (i := 749) (by decide +kernel), List.mem_of_getElem? (i := 1062) (by decide +kernel), List.mem_of_getElem? (i := 1063) (by decide +kernel)⟩
theorem lw_p67 : lw_okq (⟨"WasmCoreModel", "grow", "(I)I"⟩, 41) := ⟨⟨by decide +kernel, by decide +kernel⟩, List.mem_of_getElem? (i := 749) (by decide +kernel), List.mem_of_getElem? (i := 1066) (by decide +kernel), List.mem_of_getElem? (i := 1067) (by decide +kernel)⟩
theorem lw_p68 : lw_okq (⟨"WasmCoreModel", "load", "(II)I"⟩, 41) := ⟨⟨by decide +kernel, by decide +kernel⟩, List.mem_of_getElem? (i := 749) (by decide +kernel), List.mem_of_getElem? (i := 1070) (by decide +kernel), List.mem_of_getElem? (i := 1071) (by decide +kernel)⟩
theorem lw_p69 : lw_okq (⟨"WasmCoreModel", "give", "(II)V"⟩, 41) := ⟨⟨by decide +kernel, by decide +kernel⟩, List.mem_of_getElem? (i := 749) (by decide +kernel), List.mem_of_getElem? (i := 1077) (by decide +kernel), List.mem_of_getElem? (i := 1078) (by decide +kernel)⟩
def lw_privs_5 : List (MethodName × Nat) := [(⟨"WasmCoreModel", "plain", "(II)V"⟩, 41), (⟨"WasmCoreModel", "store", "(II)V"⟩, 41), (⟨"WasmCoreModel", "one", "(II)V"⟩, 41), (⟨"WasmCoreModel", "grow", "(I)I"⟩, 41), (⟨"WasmCoreModel", "load", "(II)I"⟩, 41), (⟨"WasmCoreModel", "give", "(II)V"⟩, 41)]
theorem lw_r5 : ∀ q ∈ lw_privs_5, lw_okq q := List.forall_mem_cons.mpr ⟨lw_p64, List.forall_mem_cons.mpr ⟨lw_p65, List.forall_mem_cons.mpr ⟨lw_p66, List.forall_mem_cons.mpr ⟨lw_p67, List.forall_mem_cons.mpr ⟨lw_p68, List.forall_mem_cons.mpr ⟨lw_p69, fun _ h => absurd h List.not_mem_nil⟩⟩⟩⟩⟩⟩
def lw_privs : List (MethodName × Nat) := lw_privs_1 ++ (lw_privs_2 ++ (lw_privs_3 ++ (lw_privs_4 ++ (lw_privs_5))))
def lw_tbl : List Cond := k2_sels lw_privs ++ tables_1
theorem lw_privs_ok : ∀ q ∈ lw_privs, lw_okq q := by
  show ∀ q ∈ lw_privs_1 ++ (lw_privs_2 ++ (lw_privs_3 ++ (lw_privs_4 ++ (lw_privs_5)))), lw_okq q
  exact List.forall_mem_append.mpr ⟨lw_r1, List.forall_mem_append.mpr ⟨lw_r2, List.forall_mem_append.mpr ⟨lw_r3, List.forall_mem_append.mpr ⟨lw_r4, lw_r5⟩⟩⟩⟩
end
section
/-! Classes of the worlds, the words. -/
def xR0 : String := "WasmCore"
def xT0 : u_T := fun k => match k with
  | 0 => ("WasmCore", "code", "LWasmCore$Code;", true)
  | 1 => ("WasmCore", "checker", "LWasmCore$Checker;", true)
  | 2 => ("WasmCore", "memory", "LWasmCore$Memory;", true)
  | 3 => ("WasmCore", "machine", "LWasmCore$Machine;", true)
  | 4 => ("WasmCore", "arguments", "[I", true)
  | 5 => ("WasmCore", "argumentCount", "I", false)
  | 6 => ("WasmCore", "status", "I", false)
  | 7 => ("WasmCore", "trap", "I", false)
  | 8 => ("WasmCore", "faultFunction", "I", false)
  | _ => ("WasmCore", "faultPlace", "I", false)
def xR1 : String := "WasmCore$Code"
def xT1 : u_T := fun k => match k with
  | 0 => ("WasmCore$Code", "words", "[I", true)
  | 1 => ("WasmCore$Code", "length", "I", false)
  | 2 => ("WasmCore$Code", "functions", "I", false)
  | 3 => ("WasmCore$Code", "bodyEnd", "[I", true)
  | 4 => ("WasmCore$Code", "parameters", "[I", true)
  | 5 => ("WasmCore$Code", "locals", "[I", true)
  | 6 => ("WasmCore$Code", "results", "[I", true)
  | 7 => ("WasmCore$Code", "endOf", "[I", true)
  | 8 => ("WasmCore$Code", "elseOf", "[I", true)
  | 9 => ("WasmCore$Code", "heightOf", "[I", true)
  | _ => ("WasmCore$Code", "targetOf", "[I", true)
def xR2 : String := "WasmCore$Checker"
def xT2 : u_T := fun k => match k with
  | 0 => ("WasmCore$Checker", "code", "LWasmCore$Code;", true)
  | 1 => ("WasmCore$Checker", "kinds", "[I", true)
  | 2 => ("WasmCore$Checker", "frameResults", "[I", true)
  | 3 => ("WasmCore$Checker", "heights", "[I", true)
  | 4 => ("WasmCore$Checker", "reached", "[Z", true)
  | 5 => ("WasmCore$Checker", "openers", "[I", true)
  | 6 => ("WasmCore$Checker", "frames", "I", false)
  | 7 => ("WasmCore$Checker", "height", "I", false)
  | 8 => ("WasmCore$Checker", "bodyEnd", "I", false)
  | 9 => ("WasmCore$Checker", "error", "I", false)
  | 10 => ("WasmCore$Checker", "function", "I", false)
  | _ => ("WasmCore$Checker", "place", "I", false)
def xR3 : String := "WasmCore$Memory"
def xT3 : u_T := fun k => match k with
  | 0 => ("WasmCore$Memory", "bytes", "[B", true)
  | _ => ("WasmCore$Memory", "pages", "I", false)
def xR4 : String := "WasmCore$Machine"
def xT4 : u_T := fun k => match k with
  | 0 => ("WasmCore$Machine", "code", "LWasmCore$Code;", true)
  | 1 => ("WasmCore$Machine", "memory", "LWasmCore$Memory;", true)
  | 2 => ("WasmCore$Machine", "globals", "[I", true)
  | 3 => ("WasmCore$Machine", "stack", "[I", true)
  | 4 => ("WasmCore$Machine", "depth", "I", false)
  | 5 => ("WasmCore$Machine", "next", "I", false)
  | 6 => ("WasmCore$Machine", "outcome", "I", false)
  | 7 => ("WasmCore$Machine", "calls", "I", false)
  | 8 => ("WasmCore$Machine", "callFunction", "[I", true)
  | 9 => ("WasmCore$Machine", "callReturn", "[I", true)
  | 10 => ("WasmCore$Machine", "callBase", "[I", true)
  | _ => ("WasmCore$Machine", "callLocals", "[I", true)
def xR5 : String := "WasmCoreModel"
def xT5 : u_T := fun k => match k with
  | 0 => ("WasmCoreModel", "thrown", "I", false)
  | 1 => ("WasmCoreModel", "status", "I", false)
  | 2 => ("WasmCoreModel", "words", "I", false)
  | 3 => ("WasmCoreModel", "code", "[I", false)
  | 4 => ("WasmCoreModel", "functions", "I", false)
  | 5 => ("WasmCoreModel", "from", "[I", false)
  | 6 => ("WasmCoreModel", "parameters", "[I", false)
  | 7 => ("WasmCoreModel", "locals", "[I", false)
  | 8 => ("WasmCoreModel", "results", "[I", false)
  | 9 => ("WasmCoreModel", "faultFunction", "I", false)
  | 10 => ("WasmCoreModel", "faultPlace", "I", false)
  | 11 => ("WasmCoreModel", "frames", "I", false)
  | 12 => ("WasmCoreModel", "kind", "[I", false)
  | 13 => ("WasmCoreModel", "gives", "[I", false)
  | 14 => ("WasmCoreModel", "height", "[I", false)
  | 15 => ("WasmCoreModel", "around", "[I", false)
  | 16 => ("WasmCoreModel", "begin", "[I", false)
  | 17 => ("WasmCoreModel", "middle", "[I", false)
  | 18 => ("WasmCoreModel", "finish", "[I", false)
  | 19 => ("WasmCoreModel", "reached", "[Z", false)
  | 20 => ("WasmCoreModel", "inside", "[I", false)
  | 21 => ("WasmCoreModel", "opens", "[I", false)
  | 22 => ("WasmCoreModel", "inner", "I", false)
  | 23 => ("WasmCoreModel", "deep", "I", false)
  | 24 => ("WasmCoreModel", "values", "I", false)
  | 25 => ("WasmCoreModel", "error", "I", false)
  | 26 => ("WasmCoreModel", "memory", "[I", false)
  | 27 => ("WasmCoreModel", "pages", "I", false)
  | 28 => ("WasmCoreModel", "globals", "[I", false)
  | 29 => ("WasmCoreModel", "arguments", "I", false)
  | 30 => ("WasmCoreModel", "argument", "[I", false)
  | 31 => ("WasmCoreModel", "trap", "I", false)
  | 32 => ("WasmCoreModel", "pc", "I", false)
  | 33 => ("WasmCoreModel", "size", "I", false)
  | 34 => ("WasmCoreModel", "stack", "[I", false)
  | 35 => ("WasmCoreModel", "calls", "I", false)
  | 36 => ("WasmCoreModel", "callee", "[I", false)
  | 37 => ("WasmCoreModel", "back", "[I", false)
  | 38 => ("WasmCoreModel", "base", "[I", false)
  | 39 => ("WasmCoreModel", "local", "[I", false)
  | _ => ("WasmCoreModel", "result", "I", false)
abbrev xcl : List vw_C := [(xR0, xT0, 10), (xR1, xT1, 11), (xR2, xT2, 12), (xR3, xT3, 2), (xR4, xT4, 12), (xR5, xT5, 41)]
def xWS : List Cond := lw_tbl.filter goodWord
theorem xWS_good : ∀ w ∈ xWS, (w.onTables && w.keeps) = true ∨ ∃ ty, w = .arrayClass ty := fun w hw => good_of_word (List.mem_filter.mp hw).2
theorem xmem {w : Cond} (i : Nat) (h : lw_tbl[i]? = some w) (hg : goodWord w = true) : w ∈ xWS := List.mem_filter.mpr ⟨List.mem_of_getElem? h, hg⟩
def xkinds : Nat → Option (List (Option Value))
  | 0 => some [some .null, some .null, some .null, some .null, some .null, none, none, none, none, none]
  | 1 => some [some .null, none, none, some .null, some .null, some .null, some .null, some .null, some .null, some .null, some .null]
  | 2 => some [some .null, some .null, some .null, some .null, some .null, some .null, none, none, none, none, none, none]
  | 3 => some [some .null, none]
  | 4 => some [some .null, some .null, some .null, some .null, none, none, none, none, some .null, some .null, some .null, some .null]
  | 5 => some [none, none, none, some .null, none, some .null, some .null, some .null, some .null, none, none, none, some .null, some .null, some .null, some .null, some .null, some .null, some .null, some .null, some .null, some .null, none, none, none, none, some .null, none, some .null, none, some .null, none, none, none, some .null, none, some .null, some .null, some .null, some .null, none]
  | _ => none
def xhost : String := "WasmCore"
def xWN : List Cond := lw_tbl.filter (fun w => match w with
  | .methodLinkNest .. => true
  | _ => false)
theorem xin0 : (u_ws xR0 xT0 10).all (fun w => decide (w ∈ lw_tbl) && goodWord w) = true := by decide +kernel
theorem xin1 : (u_ws xR1 xT1 11).all (fun w => decide (w ∈ lw_tbl) && goodWord w) = true := by decide +kernel
theorem xin2 : (u_ws xR2 xT2 12).all (fun w => decide (w ∈ lw_tbl) && goodWord w) = true := by decide +kernel
theorem xin3 : (u_ws xR3 xT3 2).all (fun w => decide (w ∈ lw_tbl) && goodWord w) = true := by decide +kernel
theorem xin4 : (u_ws xR4 xT4 12).all (fun w => decide (w ∈ lw_tbl) && goodWord w) = true := by decide +kernel
theorem xin5 : (u_ws xR5 xT5 41).all (fun w => decide (w ∈ lw_tbl) && goodWord w) = true := by decide +kernel
theorem xcl_ws {ci : Nat} {C : String} {T : u_T} {N : Nat} (hc : xcl[ci]? = some (C, T, N)) : ∀ w ∈ u_ws C T N, w ∈ xWS := by
  have key : ∀ {ws : List Cond}, ws.all (fun w => decide (w ∈ lw_tbl) && goodWord w) = true → ∀ w ∈ ws, w ∈ xWS := fun h w hw => by
    have h1 := List.all_eq_true.mp h w hw
    rw [Bool.and_eq_true, decide_eq_true_eq] at h1
    exact List.mem_filter.mpr h1
  match ci, hc with
  | 0, hc => (cases hc; exact key xin0)
  | 1, hc => (cases hc; exact key xin1)
  | 2, hc => (cases hc; exact key xin2)
  | 3, hc => (cases hc; exact key xin3)
  | 4, hc => (cases hc; exact key xin4)
  | 5, hc => (cases hc; exact key xin5)
  | n + 6, hc => simp at hc
theorem xps0 : ∀ k, k < 10 → (parseFieldDescriptor (xT0 k).2.2.1).isSome = true := by decide +kernel
theorem xnm0 : ∀ a, a < 10 → ∀ b, b < 10 → a ≠ b → (xT0 a).2.1 ≠ (xT0 b).2.1 := by decide +kernel
theorem xps1 : ∀ k, k < 11 → (parseFieldDescriptor (xT1 k).2.2.1).isSome = true := by decide +kernel
theorem xnm1 : ∀ a, a < 11 → ∀ b, b < 11 → a ≠ b → (xT1 a).2.1 ≠ (xT1 b).2.1 := by decide +kernel
theorem xps2 : ∀ k, k < 12 → (parseFieldDescriptor (xT2 k).2.2.1).isSome = true := by decide +kernel
theorem xnm2 : ∀ a, a < 12 → ∀ b, b < 12 → a ≠ b → (xT2 a).2.1 ≠ (xT2 b).2.1 := by decide +kernel
theorem xps3 : ∀ k, k < 2 → (parseFieldDescriptor (xT3 k).2.2.1).isSome = true := by decide +kernel
theorem xnm3 : ∀ a, a < 2 → ∀ b, b < 2 → a ≠ b → (xT3 a).2.1 ≠ (xT3 b).2.1 := by decide +kernel
theorem xps4 : ∀ k, k < 12 → (parseFieldDescriptor (xT4 k).2.2.1).isSome = true := by decide +kernel
theorem xnm4 : ∀ a, a < 12 → ∀ b, b < 12 → a ≠ b → (xT4 a).2.1 ≠ (xT4 b).2.1 := by decide +kernel
theorem xps5 : ∀ k, k < 41 → (parseFieldDescriptor (xT5 k).2.2.1).isSome = true := by decide +kernel
theorem xnm5 : ∀ a, a < 41 → ∀ b, b < 41 → a ≠ b → (xT5 a).2.1 ≠ (xT5 b).2.1 := by decide +kernel
theorem xcl_ps {ci : Nat} {C : String} {T : u_T} {N : Nat} (hc : xcl[ci]? = some (C, T, N)) : ∀ k, k < N → (parseFieldDescriptor (T k).2.2.1).isSome = true := by
  match ci, hc with
  | 0, hc => (cases hc; exact xps0)
  | 1, hc => (cases hc; exact xps1)
  | 2, hc => (cases hc; exact xps2)
  | 3, hc => (cases hc; exact xps3)
  | 4, hc => (cases hc; exact xps4)
  | 5, hc => (cases hc; exact xps5)
  | n + 6, hc => simp at hc
theorem xcl_nm {ci : Nat} {C : String} {T : u_T} {N : Nat} (hc : xcl[ci]? = some (C, T, N)) : ∀ a, a < N → ∀ b, b < N → a ≠ b → (T a).2.1 ≠ (T b).2.1 := by
  match ci, hc with
  | 0, hc => (cases hc; exact xnm0)
  | 1, hc => (cases hc; exact xnm1)
  | 2, hc => (cases hc; exact xnm2)
  | 3, hc => (cases hc; exact xnm3)
  | 4, hc => (cases hc; exact xnm4)
  | 5, hc => (cases hc; exact xnm5)
  | n + 6, hc => simp at hc
theorem xw_obj1 : Cond.instanceMethod Lib.objectInit ∈ xWS := xmem 94 (by decide +kernel) (by decide +kernel)
theorem xw_obj2 : Cond.code Lib.objectInit ⟨#[0xb1]⟩ 1 none ∈ xWS := xmem 95 (by decide +kernel) (by decide +kernel)
theorem xw_cp1 : Cond.native arraycopyName ∈ xWS := xmem 399 (by decide +kernel) (by decide +kernel)
theorem xw_cp2 : Cond.static arraycopyName ∈ xWS := xmem 398 (by decide +kernel) (by decide +kernel)
theorem xw_cp3 : Cond.initialized "java/lang/System" ∈ xWS := xmem 85 (by decide +kernel) (by decide +kernel)
end
section
/-! A small machine over shapes and numbers: what the walked methods do, as a function. A reference is the place of its cell in the list of shapes. -/
/-- a cell's shape: an object (its class's number, its fields: none: an int, some v: a reference or null), or an array (kind, length); kinds: 0 int, 1 byte, 2 boolean, 3 long -/
abbrev xG : Type := (Nat × List (Option Value)) ⊕ (Nat × Nat)
abbrev xI : Type := Nat → Nat → Int32
abbrev xJ : Type := Nat → Nat → Int64
/-- shapes; ints; longs; the script's length; cells that may still be made; slots that may still be laid -/
abbrev xS : Type := List xG × xI × xJ × Nat × Nat × Nat
/-- pc, locals, operands, state -/
abbrev xF : Type := Nat × List (Option Value) × List Value × xS
/-- a call: the callee's number, its arguments, what stays on the stack -/
abbrev xK : Type := Nat × List Value × List Value
/-- an end: a value or none; or a thrown class -/
abbrev xO : Type := Option Value ⊕ Nat
abbrev xR : Type := xF ⊕ xK ⊕ (xO × xS)
/-- an instruction, a mark (a switch's length; putfield: 0 an int, 1 a reference), what its numbers mean -/
abbrev xC : Type := Instr × Nat × Nat
/-- own class, name, bytes, locals, result, table, handlers (from, to, at, the entry of the class, the number of the class) -/
abbrev xM : Type := String × MethodName × ByteArray × Nat × Option FieldType × List (Nat × xC) × List (Nat × Nat × Nat × Nat × Nat)
/-- the script's place among the references -/
abbrev xscr : Nat := 1000
def xput (h : xI) (k j : Nat) (v : Int32) : xI := fun a => if a = k then upd (h a) j v else h a
def xset (h : xI) (k : Nat) (f : Nat → Int32) : xI := fun a => if a = k then f else h a
def xputL (g : xJ) (k j : Nat) (v : Int64) : xJ := fun a => if a = k then vp_updL (g a) j v else g a
def xsetL (g : xJ) (k : Nat) (f : Nat → Int64) : xJ := fun a => if a = k then f else g a
/-- going on -/
abbrev xgo (pc : Nat) (ls : List (Option Value)) (st : List Value) (S : xS) : Option xR := some (.inl (pc, ls, st, S))
abbrev xend (o : xO) (S : xS) : Option xR := some (.inr (.inr (o, S)))
def xi1 (st : List Value) (f : Int32 → List Value → Option xR) : Option xR := match st with
  | .int x :: r => f x r
  | _ => none
def xi2 (st : List Value) (f : Int32 → Int32 → List Value → Option xR) : Option xR := match st with
  | .int y :: .int x :: r => f x y r
  | _ => none
def xj1 (st : List Value) (f : Int64 → List Value → Option xR) : Option xR := match st with
  | .long x :: r => f x r
  | _ => none
def xj2 (st : List Value) (f : Int64 → Int64 → List Value → Option xR) : Option xR := match st with
  | .long y :: .long x :: r => f x y r
  | _ => none
def xji (st : List Value) (f : Int64 → Int32 → List Value → Option xR) : Option xR := match st with
  | .int y :: .long x :: r => f x y r
  | _ => none
def xr1 (st : List Value) (f : Nat → List Value → Option xR) : Option xR := match st with
  | .ref k :: r => f k r
  | _ => none
def xir (st : List Value) (f : Int32 → Nat → List Value → Option xR) : Option xR := match st with
  | .int i :: .ref k :: r => f i k r
  | _ => none
def xiir (st : List Value) (f : Int32 → Int32 → Nat → List Value → Option xR) : Option xR := match st with
  | .int x :: .int i :: .ref k :: r => f x i k r
  | _ => none
def xjir (st : List Value) (f : Int64 → Int32 → Nat → List Value → Option xR) : Option xR := match st with
  | .long x :: .int i :: .ref k :: r => f x i k r
  | _ => none
def xrr (st : List Value) (f : Nat → Nat → List Value → Option xR) : Option xR := match st with
  | .ref v :: .ref k :: r => f v k r
  | _ => none
/-- a local variable -/
def xli (ls : List (Option Value)) (k : Nat) (f : Int32 → Option xR) : Option xR := match ls[k]? with
  | some (some (.int x)) => f x
  | _ => none
def xlj (ls : List (Option Value)) (k : Nat) (f : Int64 → Option xR) : Option xR := match ls[k]? with
  | some (some (.long x)) => f x
  | _ => none
def xlr (ls : List (Option Value)) (k : Nat) (f : Nat → Option xR) : Option xR := match ls[k]? with
  | some (some (.ref x)) => f x
  | _ => none
/-- may a value be stored at k: no long's second half lies there -/
def xfree (ls : List (Option Value)) : Nat → Bool
  | 0 => true
  | k + 1 => match ls[k]? with
    | some (some (.long _)) => false
    | some (some (.double _)) => false
    | _ => true
def xst1 (ls : List (Option Value)) (k : Nat) (v : Value) (f : List (Option Value) → Option xR) : Option xR :=
  bif xfree ls k && Nat.blt k ls.length then f (ls.set k (some v)) else none
def xst2 (ls : List (Option Value)) (k : Nat) (v : Value) (f : List (Option Value) → Option xR) : Option xR :=
  bif xfree ls k && Nat.blt (k + 1) ls.length then f ((ls.set k (some v)).set (k + 1) none) else none
/-- an array of a kind -/
def xarr (G : List xG) (k t : Nat) (f : Nat → Option xR) : Option xR := match G[k]? with
  | some (.inr (t', n)) => bif Nat.beq t' t then f n else none
  | _ => none
def xarrB (G : List xG) (k : Nat) (f : Bool → Nat → Option xR) : Option xR := match G[k]? with
  | some (.inr (t', n)) => bif Nat.beq t' 1 then f false n else bif Nat.beq t' 2 then f true n else none
  | _ => none
def xobj (G : List xG) (k ci : Nat) (f : List (Option Value) → Option xR) : Option xR := match G[k]? with
  | some (.inl (c', ks)) => bif Nat.beq c' ci then f ks else none
  | _ => none
def xin (i : Int32) (n : Nat) (f : Option xR) : Option xR := if i < 0 ∨ n ≤ i.toNatClampNeg then none else f
/-- the place behind a switch -/
def xtsw (pc : Nat) (dflt lo hi : Int) (offs : Array Int) (x : Int32) : Nat := if x.toInt < lo ∨ hi < x.toInt then ((pc : Int) + dflt).toNat else ((pc : Int) + offs.getD (x.toInt - lo).toNat 0).toNat
def xlsw (pc : Nat) (dflt : Int) (ps : Array (Int × Int)) (x : Int32) : Nat := ((pc : Int) + Op.lookupswitch.offset ps.toList dflt x.toInt).toNat
def xcat : List Value → Nat
  | [] => 0
  | v :: r => v.category + xcat r
/-- the references among values, within n or the script's -/
def xokv (n : Nat) : Value → Bool
  | .ref k => Nat.blt k n || Nat.beq k xscr
  | .double _ => false
  | _ => true
def xoks (n : Nat) : List Value → Bool
  | [] => true
  | v :: r => xokv n v && xoks n r
def xokl (n : Nat) : List (Option Value) → Bool
  | [] => true
  | none :: r => xokl n r
  | some v :: r => xokv n v && xokl n r
/-- a call: (its class's number * 1000 + its number) * 16 + how many values it takes -/
def xcall (d dat n : Nat) (ls : List (Option Value)) (st : List Value) : Option xR :=
  bif Nat.blt 0 d && Nat.ble (xcat (st.drop (dat % 16))) 8 && Nat.ble (dat % 16) st.length && xokl n ls && xoks n st then some (.inr (.inl (dat / 16 % 1000, (st.take (dat % 16)).reverse, st.drop (dat % 16)))) else none
/-- System.arraycopy of ints -/
def xcopy (d pc : Nat) (ls : List (Option Value)) (st : List Value) (S : xS) : Option xR := match st with
  | .int n :: .int dp :: .ref a :: .int sp :: .ref b :: r => xarr S.1 b 0 fun n0 => xarr S.1 a 0 fun n1 =>
      if sp < 0 ∨ dp < 0 ∨ n < 0 ∨ n0 < sp.toNatClampNeg + n.toNatClampNeg ∨ n1 < dp.toNatClampNeg + n.toNatClampNeg ∨ d < 3 ∨ 8 < xcat r then none else
        xgo (pc + 3) ls r (S.1, xset S.2.1 a (va_cpy (S.2.1 b) (S.2.1 a) sp.toNatClampNeg dp.toNatClampNeg n.toNatClampNeg), S.2.2)
  | _ => none
/-- one instruction of a method whose frame may lay d more -/
def xstep (d : Nat) (i : xC) (pc : Nat) (ls : List (Option Value)) (st : List Value) (S : xS) : Option xR :=
  match i.1 with
  | .iconst n => xgo (pc + 1) ls (.int (Int32.ofInt n) :: st) S
  | .bipush n => xgo (pc + 2) ls (.int (Int32.ofInt n) :: st) S
  | .sipush n => xgo (pc + 3) ls (.int (Int32.ofInt n) :: st) S
  | .ldc _ => xgo (pc + 2) ls (.int (Int32.ofNat i.2.2) :: st) S
  | .ldc_w _ => xgo (pc + 3) ls (.int (Int32.ofNat i.2.2) :: st) S
  | .ldc2_w _ => xgo (pc + 3) ls (.long (Int64.ofNat i.2.2) :: st) S
  | .lconst n => xgo (pc + 1) ls (.long (Int64.ofNat n.val) :: st) S
  | .iload k => xli ls k fun x => xgo (pc + 2) ls (.int x :: st) S
  | .iload_n k => xli ls k.val fun x => xgo (pc + 1) ls (.int x :: st) S
  | .lload k => xlj ls k fun x => xgo (pc + 2) ls (.long x :: st) S
  | .lload_n k => xlj ls k.val fun x => xgo (pc + 1) ls (.long x :: st) S
  | .aload k => xlr ls k fun x => xgo (pc + 2) ls (.ref x :: st) S
  | .aload_n k => xlr ls k.val fun x => xgo (pc + 1) ls (.ref x :: st) S
  | .istore k => xi1 st fun x r => xst1 ls k (.int x) fun l => xgo (pc + 2) l r S
  | .istore_n k => xi1 st fun x r => xst1 ls k.val (.int x) fun l => xgo (pc + 1) l r S
  | .lstore k => xj1 st fun x r => xst2 ls k (.long x) fun l => xgo (pc + 2) l r S
  | .lstore_n k => xj1 st fun x r => xst2 ls k.val (.long x) fun l => xgo (pc + 1) l r S
  | .astore k => xr1 st fun x r => xst1 ls k (.ref x) fun l => xgo (pc + 2) l r S
  | .astore_n k => xr1 st fun x r => xst1 ls k.val (.ref x) fun l => xgo (pc + 1) l r S
  | .iinc k n => xli ls k fun x => xst1 ls k (.int (x + Int32.ofInt n)) fun l => xgo (pc + 3) l st S
  | .iadd => xi2 st fun x y r => xgo (pc + 1) ls (.int (x + y) :: r) S
  | .isub => xi2 st fun x y r => xgo (pc + 1) ls (.int (x - y) :: r) S
  | .imul => xi2 st fun x y r => xgo (pc + 1) ls (.int (x * y) :: r) S
  | .iand => xi2 st fun x y r => xgo (pc + 1) ls (.int (x &&& y) :: r) S
  | .ior => xi2 st fun x y r => xgo (pc + 1) ls (.int (x ||| y) :: r) S
  | .ixor => xi2 st fun x y r => xgo (pc + 1) ls (.int (x ^^^ y) :: r) S
  | .idiv => xi2 st fun x y r => if y = 0 then none else xgo (pc + 1) ls (.int (x / y) :: r) S
  | .irem => xi2 st fun x y r => if y = 0 then none else xgo (pc + 1) ls (.int (x - x / y * y) :: r) S
  | .ineg => xi1 st fun x r => xgo (pc + 1) ls (.int (-x) :: r) S
  | .ishl => xi2 st fun x y r => xgo (pc + 1) ls (.int (x <<< (y &&& 31)) :: r) S
  | .ishr => xi2 st fun x y r => xgo (pc + 1) ls (.int (x >>> (y &&& 31)) :: r) S
  | .iushr => xi2 st fun x y r => xgo (pc + 1) ls (.int (x.toUInt32 >>> (y.toUInt32 &&& Int32.toUInt32 31)).toInt32 :: r) S
  | .ladd => xj2 st fun x y r => xgo (pc + 1) ls (.long (x + y) :: r) S
  | .land => xj2 st fun x y r => xgo (pc + 1) ls (.long (x &&& y) :: r) S
  | .lor => xj2 st fun x y r => xgo (pc + 1) ls (.long (x ||| y) :: r) S
  | .ldiv => xj2 st fun x y r => if y = 0 then none else xgo (pc + 1) ls (.long (x / y) :: r) S
  | .lrem => xj2 st fun x y r => if y = 0 then none else xgo (pc + 1) ls (.long (x - x / y * y) :: r) S
  | .lcmp => xj2 st fun x y r => xgo (pc + 1) ls (.int (lg_cmp x y) :: r) S
  | .lshl => xji st fun x y r => xgo (pc + 1) ls (.long (x <<< (y.toInt64 &&& 63)) :: r) S
  | .lshr => xji st fun x y r => xgo (pc + 1) ls (.long (x >>> (y.toInt64 &&& 63)) :: r) S
  | .lushr => xji st fun x y r => xgo (pc + 1) ls (.long (x.toUInt64 >>> (y.toInt64.toUInt64 &&& Int64.toUInt64 63)).toInt64 :: r) S
  | .i2l => xi1 st fun x r => xgo (pc + 1) ls (.long x.toInt64 :: r) S
  | .l2i => xj1 st fun x r => xgo (pc + 1) ls (.int x.toInt32 :: r) S
  | .i2b => xi1 st fun x r => xgo (pc + 1) ls (.int x.toInt8.toInt32 :: r) S
  | .i2s => xi1 st fun x r => xgo (pc + 1) ls (.int x.toInt16.toInt32 :: r) S
  | .dup => match st with
    | .int x :: r => xgo (pc + 1) ls (.int x :: .int x :: r) S
    | .ref x :: r => xgo (pc + 1) ls (.ref x :: .ref x :: r) S
    | _ => none
  | .pop => xi1 st fun _ r => xgo (pc + 1) ls r S
  | .goto _ => xgo i.2.2 ls st S
  | .ifCond .eq _ => xi1 st fun x r => xgo (if x = 0 then i.2.2 else pc + 3) ls r S
  | .ifCond .ne _ => xi1 st fun x r => xgo (if x = 0 then pc + 3 else i.2.2) ls r S
  | .ifCond .lt _ => xi1 st fun x r => xgo (if x < 0 then i.2.2 else pc + 3) ls r S
  | .ifCond .ge _ => xi1 st fun x r => xgo (if 0 ≤ x then i.2.2 else pc + 3) ls r S
  | .ifCond .gt _ => xi1 st fun x r => xgo (if 0 < x then i.2.2 else pc + 3) ls r S
  | .ifCond .le _ => xi1 st fun x r => xgo (if x ≤ 0 then i.2.2 else pc + 3) ls r S
  | .if_icmp .eq _ => xi2 st fun x y r => xgo (if x = y then i.2.2 else pc + 3) ls r S
  | .if_icmp .ne _ => xi2 st fun x y r => xgo (if x = y then pc + 3 else i.2.2) ls r S
  | .if_icmp .lt _ => xi2 st fun x y r => xgo (if x < y then i.2.2 else pc + 3) ls r S
  | .if_icmp .ge _ => xi2 st fun x y r => xgo (if y ≤ x then i.2.2 else pc + 3) ls r S
  | .if_icmp .gt _ => xi2 st fun x y r => xgo (if y < x then i.2.2 else pc + 3) ls r S
  | .if_icmp .le _ => xi2 st fun x y r => xgo (if x ≤ y then i.2.2 else pc + 3) ls r S
  | .tableswitch dflt lo hi offs => xi1 st fun x r => xgo (xtsw pc dflt lo hi offs x) ls r S
  | .lookupswitch dflt ps => xi1 st fun x r => xgo (xlsw pc dflt ps x) ls r S
  | .getfield _ => xr1 st fun k r => xobj S.1 k (i.2.2 / 64) fun ks => match ks[i.2.2 % 64]? with
    | some none => xgo (pc + 3) ls (.int (S.2.1 k (i.2.2 % 64)) :: r) S
    | some (some (.ref v)) => xgo (pc + 3) ls (.ref v :: r) S
    | _ => none
  | .putfield _ => match st with
    | .int v :: .ref k :: r => bif !(Nat.beq i.2.1 0) then none else xobj S.1 k (i.2.2 / 64) fun ks => match ks[i.2.2 % 64]? with
      | some none => xgo (pc + 3) ls r (S.1, xput S.2.1 k (i.2.2 % 64) v, S.2.2)
      | _ => none
    | .ref v :: .ref k :: r => bif !(Nat.beq i.2.1 1) then none else xobj S.1 k (i.2.2 / 64) fun ks => match ks[i.2.2 % 64]? with
      | some (some _) => bif !(Nat.blt v S.1.length) then none else xgo (pc + 3) ls r (S.1.set k (.inl (i.2.2 / 64, ks.set (i.2.2 % 64) (some (.ref v)))), S.2)
      | _ => none
    | _ => none
  | .iaload => xir st fun j k r => bif Nat.beq k xscr then xin j S.2.2.2.1 (xgo (pc + 1) ls (.int (S.2.1 xscr j.toNatClampNeg) :: r) S)
      else xarr S.1 k 0 fun n => xin j n (xgo (pc + 1) ls (.int (S.2.1 k j.toNatClampNeg) :: r) S)
  | .iastore => xiir st fun x j k r => xarr S.1 k 0 fun n => xin j n (xgo (pc + 1) ls r (S.1, xput S.2.1 k j.toNatClampNeg x, S.2.2))
  | .baload => xir st fun j k r => xarrB S.1 k fun _ n => xin j n (xgo (pc + 1) ls (.int (S.2.1 k j.toNatClampNeg) :: r) S)
  | .bastore => xiir st fun x j k r => xarrB S.1 k fun b n => xin j n (xgo (pc + 1) ls r (S.1, xput S.2.1 k j.toNatClampNeg (bif b then vp_nar .boolean x else vp_nar .byte x), S.2.2))
  | .laload => xir st fun j k r => xarr S.1 k 3 fun n => xin j n (xgo (pc + 1) ls (.long (S.2.2.1 k j.toNatClampNeg) :: r) S)
  | .lastore => xjir st fun x j k r => xarr S.1 k 3 fun n => xin j n (xgo (pc + 1) ls r (S.1, S.2.1, xputL S.2.2.1 k j.toNatClampNeg x, S.2.2.2))
  | .arraylength => xr1 st fun k r => bif Nat.beq k xscr then xgo (pc + 1) ls (.int (Int32.ofNat S.2.2.2.1) :: r) S
      else match S.1[k]? with
      | some (.inr (t, n)) => bif Nat.blt t 4 then xgo (pc + 1) ls (.int (Int32.ofNat n) :: r) S else none
      | _ => none
  | .newarray t => xi1 st fun n r => if n < 0 ∨ 4096 < n.toNatClampNeg ∨ S.2.2.2.2.1 = 0 ∨ S.2.2.2.2.2 < n.toNatClampNeg ∨ 999 < S.1.length then none else bif !(xokl S.1.length ls && xoks S.1.length st) then none else
      match t with
      | .int => xgo (pc + 2) ls (.ref S.1.length :: r) (S.1 ++ [.inr (0, n.toNatClampNeg)], xset S.2.1 S.1.length (fun _ => 0), S.2.2.1, S.2.2.2.1, S.2.2.2.2.1 - 1, S.2.2.2.2.2 - n.toNatClampNeg)
      | .byte => xgo (pc + 2) ls (.ref S.1.length :: r) (S.1 ++ [.inr (1, n.toNatClampNeg)], xset S.2.1 S.1.length (fun _ => 0), S.2.2.1, S.2.2.2.1, S.2.2.2.2.1 - 1, S.2.2.2.2.2 - n.toNatClampNeg)
      | .boolean => xgo (pc + 2) ls (.ref S.1.length :: r) (S.1 ++ [.inr (2, n.toNatClampNeg)], xset S.2.1 S.1.length (fun _ => 0), S.2.2.1, S.2.2.2.1, S.2.2.2.2.1 - 1, S.2.2.2.2.2 - n.toNatClampNeg)
      | .long => xgo (pc + 2) ls (.ref S.1.length :: r) (S.1 ++ [.inr (3, n.toNatClampNeg)], S.2.1, xsetL S.2.2.1 S.1.length (fun _ => 0), S.2.2.2.1, S.2.2.2.2.1 - 1, S.2.2.2.2.2 - n.toNatClampNeg)
      | _ => none
  | .new _ => bif Nat.blt i.2.2 100 then (match xkinds i.2.2 with
      | some ks => if S.2.2.2.2.1 = 0 ∨ S.2.2.2.2.2 < ks.length ∨ 999 < S.1.length then none else bif !(xokl S.1.length ls && xoks S.1.length st) then none else
          xgo (pc + 3) ls (.ref S.1.length :: st) (S.1 ++ [.inl (i.2.2, ks)], xset S.2.1 S.1.length (fun _ => 0), S.2.2.1, S.2.2.2.1, S.2.2.2.2.1 - 1, S.2.2.2.2.2 - ks.length)
      | none => none)
      else if S.2.2.2.2.1 = 0 ∨ S.2.2.2.2.2 < 6 ∨ d < 6 ∨ 8 < xcat st then none else xend (.inr (i.2.2 - 100)) (S.1, S.2.1, S.2.2.1, S.2.2.2.1, S.2.2.2.2.1 - 1, S.2.2.2.2.2 - 6)
  | .invokestatic _ => bif Nat.beq i.2.2 14421 then xcopy d pc ls st S else xcall d i.2.2 S.1.length ls st
  | .invokevirtual _ => match st[i.2.2 % 16 - 1]? with
    | some (.ref k) => xobj S.1 k (i.2.2 / 16000) fun _ => xcall d i.2.2 S.1.length ls st
    | _ => none
  | .invokespecial _ => bif Nat.beq i.2.2 14401 then xr1 st fun _ r => (bif Nat.blt 0 d && Nat.ble (xcat r) 8 then xgo (pc + 3) ls r S else none) else match st[i.2.2 % 16 - 1]? with
    | some (.ref _) => xcall d i.2.2 S.1.length ls st
    | _ => none
  | .ireturn => match st with
    | [.int x] => bif Nat.beq i.2.2 0 then xend (.inl (some (.int x))) S else if x = 0 ∨ x = 1 then xend (.inl (some (.int x))) S else none
    | _ => none
  | .lreturn => match st with
    | [.long x] => xend (.inl (some (.long x))) S
    | _ => none
  | .return_ => match st with
    | [] => xend (.inl none) S
    | _ => none
  | _ => none
/-- the locals with which a method begins -/
def xsl : List Value → List (Option Value)
  | [] => []
  | .long x :: r => some (.long x) :: none :: xsl r
  | v :: r => some v :: xsl r
def xent (n : Nat) (vs : List Value) : List (Option Value) := xsl vs ++ List.replicate (n - (xsl vs).length) none
/-- the instruction at a place -/
def xat : List (Nat × xC) → Nat → Option xC
  | [], _ => none
  | (q, i) :: r, pc => bif Nat.beq q pc then some i else xat r pc
/-- the handler of a thrown class: where it begins behind its store, and where it stores -/
def xcatch (t : List (Nat × xC)) : List (Nat × Nat × Nat × Nat × Nat) → Nat → Nat → Option (Nat × Nat)
  | [], _, _ => none
  | (a, b, hp, _, k) :: r, pc, x => bif !(Nat.ble a pc && Nat.blt pc b) then none else bif Nat.beq k x then (match xat t hp with
      | some (.astore j, _) => some (hp + 2, j)
      | some (.astore_n j, _) => some (hp + 1, j.val)
      | _ => none) else xcatch t r pc x
def xisV : Instr → Bool
  | .invokevirtual _ => true
  | _ => false
end
section
/-! The methods, an instruction a row. -/
/-- WasmCore.<init>()V -/
def M_0 : xM := ("WasmCore", ⟨"WasmCore", "<init>", "()V"⟩, prog_1_method_1_code, 3, none, [
  (0, (.aload_n 0, 0, 0)),
  (1, (.invokespecial 1, 0, 14401)),
  (4, (.new 7, 0, 1)),
  (7, (.dup, 0, 0)),
  (8, (.invokespecial 9, 0, 17)),
  (11, (.astore_n 1, 0, 0)),
  (12, (.new 10, 0, 3)),
  (15, (.dup, 0, 0)),
  (16, (.invokespecial 12, 0, 33)),
  (19, (.astore_n 2, 0, 0)),
  (20, (.aload_n 0, 0, 0)),
  (21, (.aload_n 1, 0, 0)),
  (22, (.putfield 13, 1, 0)),
  (25, (.aload_n 0, 0, 0)),
  (26, (.aload_n 2, 0, 0)),
  (27, (.putfield 19, 1, 2)),
  (30, (.aload_n 0, 0, 0)),
  (31, (.new 23, 0, 2)),
  (34, (.dup, 0, 0)),
  (35, (.aload_n 1, 0, 0)),
  (36, (.invokespecial 25, 0, 50)),
  (39, (.putfield 28, 1, 1)),
  (42, (.aload_n 0, 0, 0)),
  (43, (.new 32, 0, 4)),
  (46, (.dup, 0, 0)),
  (47, (.aload_n 1, 0, 0)),
  (48, (.aload_n 2, 0, 0)),
  (49, (.invokespecial 34, 0, 67)),
  (52, (.putfield 37, 1, 3)),
  (55, (.aload_n 0, 0, 0)),
  (56, (.iconst 4, 0, 0)),
  (57, (.newarray .int, 0, 0)),
  (59, (.putfield 41, 1, 4)),
  (62, (.aload_n 0, 0, 0)),
  (63, (.iconst 0, 0, 0)),
  (64, (.putfield 45, 0, 5)),
  (67, (.aload_n 0, 0, 0)),
  (68, (.iconst 0, 0, 0)),
  (69, (.putfield 49, 0, 6)),
  (72, (.aload_n 0, 0, 0)),
  (73, (.iconst 0, 0, 0)),
  (74, (.putfield 52, 0, 7)),
  (77, (.aload_n 0, 0, 0)),
  (78, (.iconst (-1), 0, 0)),
  (79, (.putfield 55, 0, 8)),
  (82, (.aload_n 0, 0, 0)),
  (83, (.iconst (-1), 0, 0)),
  (84, (.putfield 58, 0, 9)),
  (87, (.return_, 0, 0))], [])
/-- WasmCore$Code.<init>()V -/
def M_1 : xM := ("WasmCore$Code", ⟨"WasmCore$Code", "<init>", "()V"⟩, prog_3_method_1_code, 1, none, [
  (0, (.aload_n 0, 0, 0)),
  (1, (.invokespecial 1, 0, 14401)),
  (4, (.aload_n 0, 0, 0)),
  (5, (.sipush 240, 0, 0)),
  (8, (.newarray .int, 0, 0)),
  (10, (.putfield 9, 1, 64)),
  (13, (.aload_n 0, 0, 0)),
  (14, (.iconst 0, 0, 0)),
  (15, (.putfield 13, 0, 65)),
  (18, (.aload_n 0, 0, 0)),
  (19, (.iconst 0, 0, 0)),
  (20, (.putfield 17, 0, 66)),
  (23, (.aload_n 0, 0, 0)),
  (24, (.bipush 6, 0, 0)),
  (26, (.newarray .int, 0, 0)),
  (28, (.putfield 20, 1, 67)),
  (31, (.aload_n 0, 0, 0)),
  (32, (.bipush 6, 0, 0)),
  (34, (.newarray .int, 0, 0)),
  (36, (.putfield 23, 1, 68)),
  (39, (.aload_n 0, 0, 0)),
  (40, (.bipush 6, 0, 0)),
  (42, (.newarray .int, 0, 0)),
  (44, (.putfield 26, 1, 69)),
  (47, (.aload_n 0, 0, 0)),
  (48, (.bipush 6, 0, 0)),
  (50, (.newarray .int, 0, 0)),
  (52, (.putfield 29, 1, 70)),
  (55, (.aload_n 0, 0, 0)),
  (56, (.sipush 240, 0, 0)),
  (59, (.newarray .int, 0, 0)),
  (61, (.putfield 32, 1, 71)),
  (64, (.aload_n 0, 0, 0)),
  (65, (.sipush 240, 0, 0)),
  (68, (.newarray .int, 0, 0)),
  (70, (.putfield 35, 1, 72)),
  (73, (.aload_n 0, 0, 0)),
  (74, (.sipush 240, 0, 0)),
  (77, (.newarray .int, 0, 0)),
  (79, (.putfield 38, 1, 73)),
  (82, (.aload_n 0, 0, 0)),
  (83, (.sipush 240, 0, 0)),
  (86, (.newarray .int, 0, 0)),
  (88, (.putfield 41, 1, 74)),
  (91, (.return_, 0, 0))], [])
/-- WasmCore$Memory.<init>()V -/
def M_2 : xM := ("WasmCore$Memory", ⟨"WasmCore$Memory", "<init>", "()V"⟩, prog_5_method_1_code, 1, none, [
  (0, (.aload_n 0, 0, 0)),
  (1, (.invokespecial 1, 0, 14401)),
  (4, (.aload_n 0, 0, 0)),
  (5, (.sipush 256, 0, 0)),
  (8, (.newarray .byte, 0, 0)),
  (10, (.putfield 9, 1, 192)),
  (13, (.aload_n 0, 0, 0)),
  (14, (.iconst 1, 0, 0)),
  (15, (.putfield 13, 0, 193)),
  (18, (.return_, 0, 0))], [])
/-- WasmCore$Checker.<init>(LWasmCore$Code;)V -/
def M_3 : xM := ("WasmCore$Checker", ⟨"WasmCore$Checker", "<init>", "(LWasmCore$Code;)V"⟩, prog_2_method_1_code, 2, none, [
  (0, (.aload_n 0, 0, 0)),
  (1, (.invokespecial 3, 0, 14401)),
  (4, (.aload_n 0, 0, 0)),
  (5, (.bipush 9, 0, 0)),
  (7, (.newarray .int, 0, 0)),
  (9, (.putfield 11, 1, 129)),
  (12, (.aload_n 0, 0, 0)),
  (13, (.bipush 9, 0, 0)),
  (15, (.newarray .int, 0, 0)),
  (17, (.putfield 15, 1, 130)),
  (20, (.aload_n 0, 0, 0)),
  (21, (.bipush 9, 0, 0)),
  (23, (.newarray .int, 0, 0)),
  (25, (.putfield 18, 1, 131)),
  (28, (.aload_n 0, 0, 0)),
  (29, (.bipush 9, 0, 0)),
  (31, (.newarray .boolean, 0, 0)),
  (33, (.putfield 21, 1, 132)),
  (36, (.aload_n 0, 0, 0)),
  (37, (.bipush 9, 0, 0)),
  (39, (.newarray .int, 0, 0)),
  (41, (.putfield 25, 1, 133)),
  (44, (.aload_n 0, 0, 0)),
  (45, (.iconst 0, 0, 0)),
  (46, (.putfield 28, 0, 134)),
  (49, (.aload_n 0, 0, 0)),
  (50, (.iconst 0, 0, 0)),
  (51, (.putfield 32, 0, 135)),
  (54, (.aload_n 0, 0, 0)),
  (55, (.iconst 0, 0, 0)),
  (56, (.putfield 35, 0, 136)),
  (59, (.aload_n 0, 0, 0)),
  (60, (.iconst 0, 0, 0)),
  (61, (.putfield 38, 0, 137)),
  (64, (.aload_n 0, 0, 0)),
  (65, (.iconst 0, 0, 0)),
  (66, (.putfield 41, 0, 138)),
  (69, (.aload_n 0, 0, 0)),
  (70, (.iconst 0, 0, 0)),
  (71, (.putfield 44, 0, 139)),
  (74, (.aload_n 0, 0, 0)),
  (75, (.aload_n 1, 0, 0)),
  (76, (.putfield 47, 1, 128)),
  (79, (.return_, 0, 0))], [])
/-- WasmCore$Machine.<init>(LWasmCore$Code;LWasmCore$Memory;)V -/
def M_4 : xM := ("WasmCore$Machine", ⟨"WasmCore$Machine", "<init>", "(LWasmCore$Code;LWasmCore$Memory;)V"⟩, prog_4_method_1_code, 3, none, [
  (0, (.aload_n 0, 0, 0)),
  (1, (.invokespecial 5, 0, 14401)),
  (4, (.aload_n 0, 0, 0)),
  (5, (.iconst 4, 0, 0)),
  (6, (.newarray .int, 0, 0)),
  (8, (.putfield 13, 1, 258)),
  (11, (.aload_n 0, 0, 0)),
  (12, (.bipush 100, 0, 0)),
  (14, (.newarray .int, 0, 0)),
  (16, (.putfield 17, 1, 259)),
  (19, (.aload_n 0, 0, 0)),
  (20, (.iconst 0, 0, 0)),
  (21, (.putfield 20, 0, 260)),
  (24, (.aload_n 0, 0, 0)),
  (25, (.iconst 0, 0, 0)),
  (26, (.putfield 24, 0, 261)),
  (29, (.aload_n 0, 0, 0)),
  (30, (.iconst 0, 0, 0)),
  (31, (.putfield 27, 0, 262)),
  (34, (.aload_n 0, 0, 0)),
  (35, (.iconst 0, 0, 0)),
  (36, (.putfield 30, 0, 263)),
  (39, (.aload_n 0, 0, 0)),
  (40, (.bipush 6, 0, 0)),
  (42, (.newarray .int, 0, 0)),
  (44, (.putfield 33, 1, 264)),
  (47, (.aload_n 0, 0, 0)),
  (48, (.bipush 6, 0, 0)),
  (50, (.newarray .int, 0, 0)),
  (52, (.putfield 36, 1, 265)),
  (55, (.aload_n 0, 0, 0)),
  (56, (.bipush 6, 0, 0)),
  (58, (.newarray .int, 0, 0)),
  (60, (.putfield 39, 1, 266)),
  (63, (.aload_n 0, 0, 0)),
  (64, (.bipush 48, 0, 0)),
  (66, (.newarray .int, 0, 0)),
  (68, (.putfield 42, 1, 267)),
  (71, (.aload_n 0, 0, 0)),
  (72, (.aload_n 1, 0, 0)),
  (73, (.putfield 45, 1, 256)),
  (76, (.aload_n 0, 0, 0)),
  (77, (.aload_n 2, 0, 0)),
  (78, (.putfield 49, 1, 257)),
  (81, (.return_, 0, 0))], [])
/-- WasmCore.fault(I)I -/
def M_5 : xM := ("WasmCore", ⟨"WasmCore", "fault", "(I)I"⟩, prog_1_method_6_code, 2, (some .int), [
  (0, (.iload_n 1, 0, 0)),
  (1, (.ifCond .ne 8, 0, 9)),
  (4, (.aload_n 0, 0, 0)),
  (5, (.getfield 55, 0, 8)),
  (8, (.ireturn, 0, 0)),
  (9, (.iload_n 1, 0, 0)),
  (10, (.iconst 1, 0, 0)),
  (11, (.if_icmp .ne 10, 0, 21)),
  (14, (.aload_n 0, 0, 0)),
  (15, (.getfield 58, 0, 9)),
  (18, (.goto 4, 0, 22)),
  (21, (.iconst (-1), 0, 0)),
  (22, (.ireturn, 0, 0))], [])
/-- WasmCore.clear()V -/
def M_6 : xM := ("WasmCore", ⟨"WasmCore", "clear", "()V"⟩, prog_1_method_7_code, 1, none, [
  (0, (.aload_n 0, 0, 0)),
  (1, (.getfield 13, 0, 0)),
  (4, (.invokevirtual 120, 0, 16113)),
  (7, (.aload_n 0, 0, 0)),
  (8, (.getfield 19, 0, 2)),
  (11, (.invokevirtual 123, 0, 48129)),
  (14, (.aload_n 0, 0, 0)),
  (15, (.getfield 37, 0, 3)),
  (18, (.invokevirtual 126, 0, 64161)),
  (21, (.aload_n 0, 0, 0)),
  (22, (.iconst 0, 0, 0)),
  (23, (.putfield 45, 0, 5)),
  (26, (.aload_n 0, 0, 0)),
  (27, (.iconst 0, 0, 0)),
  (28, (.putfield 49, 0, 6)),
  (31, (.aload_n 0, 0, 0)),
  (32, (.iconst (-1), 0, 0)),
  (33, (.putfield 55, 0, 8)),
  (36, (.aload_n 0, 0, 0)),
  (37, (.iconst (-1), 0, 0)),
  (38, (.putfield 58, 0, 9)),
  (41, (.return_, 0, 0))], [])
/-- WasmCore$Code.removeAll()V -/
def M_7 : xM := ("WasmCore$Code", ⟨"WasmCore$Code", "removeAll", "()V"⟩, prog_3_method_3_code, 1, none, [
  (0, (.aload_n 0, 0, 0)),
  (1, (.iconst 0, 0, 0)),
  (2, (.putfield 13, 0, 65)),
  (5, (.aload_n 0, 0, 0)),
  (6, (.iconst 0, 0, 0)),
  (7, (.putfield 17, 0, 66)),
  (10, (.return_, 0, 0))], [])
/-- WasmCore$Memory.reset()V -/
def M_8 : xM := ("WasmCore$Memory", ⟨"WasmCore$Memory", "reset", "()V"⟩, prog_5_method_2_code, 1, none, [
  (0, (.aload_n 0, 0, 0)),
  (1, (.getfield 9, 0, 192)),
  (4, (.iconst 0, 0, 0)),
  (5, (.invokestatic 17, 0, 146)),
  (8, (.aload_n 0, 0, 0)),
  (9, (.iconst 1, 0, 0)),
  (10, (.putfield 13, 0, 193)),
  (13, (.return_, 0, 0))], [])
/-- java/util/Arrays.fill([BB)V -/
def M_9 : xM := ("java/util/Arrays", ⟨"java/util/Arrays", "fill", "([BB)V"⟩, prog_19_method_109_code, 4, none, [
  (0, (.iconst 0, 0, 0)),
  (1, (.istore_n 2, 0, 0)),
  (2, (.aload_n 0, 0, 0)),
  (3, (.arraylength, 0, 0)),
  (4, (.istore_n 3, 0, 0)),
  (5, (.iload_n 2, 0, 0)),
  (6, (.iload_n 3, 0, 0)),
  (7, (.if_icmp .ge 13, 0, 20)),
  (10, (.aload_n 0, 0, 0)),
  (11, (.iload_n 2, 0, 0)),
  (12, (.iload_n 1, 0, 0)),
  (13, (.bastore, 0, 0)),
  (14, (.iinc 2 1, 0, 0)),
  (17, (.goto (-12), 0, 5)),
  (20, (.return_, 0, 0))], [])
/-- WasmCore$Machine.reset()V -/
def M_10 : xM := ("WasmCore$Machine", ⟨"WasmCore$Machine", "reset", "()V"⟩, prog_4_method_2_code, 1, none, [
  (0, (.aload_n 0, 0, 0)),
  (1, (.getfield 13, 0, 258)),
  (4, (.iconst 0, 0, 0)),
  (5, (.invokestatic 53, 0, 178)),
  (8, (.return_, 0, 0))], [])
/-- java/util/Arrays.fill([II)V -/
def M_11 : xM := ("java/util/Arrays", ⟨"java/util/Arrays", "fill", "([II)V"⟩, prog_19_method_103_code, 4, none, [
  (0, (.iconst 0, 0, 0)),
  (1, (.istore_n 2, 0, 0)),
  (2, (.aload_n 0, 0, 0)),
  (3, (.arraylength, 0, 0)),
  (4, (.istore_n 3, 0, 0)),
  (5, (.iload_n 2, 0, 0)),
  (6, (.iload_n 3, 0, 0)),
  (7, (.if_icmp .ge 13, 0, 20)),
  (10, (.aload_n 0, 0, 0)),
  (11, (.iload_n 2, 0, 0)),
  (12, (.iload_n 1, 0, 0)),
  (13, (.iastore, 0, 0)),
  (14, (.iinc 2 1, 0, 0)),
  (17, (.goto (-12), 0, 5)),
  (20, (.return_, 0, 0))], [])
/-- WasmCore.argument(I)I -/
def M_12 : xM := ("WasmCore", ⟨"WasmCore", "argument", "(I)I"⟩, prog_1_method_8_code, 2, (some .int), [
  (0, (.aload_n 0, 0, 0)),
  (1, (.getfield 45, 0, 5)),
  (4, (.iconst 4, 0, 0)),
  (5, (.if_icmp .ne 5, 0, 10)),
  (8, (.iconst (-1), 0, 0)),
  (9, (.ireturn, 0, 0)),
  (10, (.aload_n 0, 0, 0)),
  (11, (.getfield 41, 0, 4)),
  (14, (.aload_n 0, 0, 0)),
  (15, (.getfield 45, 0, 5)),
  (18, (.iload_n 1, 0, 0)),
  (19, (.iastore, 0, 0)),
  (20, (.aload_n 0, 0, 0)),
  (21, (.dup, 0, 0)),
  (22, (.getfield 45, 0, 5)),
  (25, (.iconst 1, 0, 0)),
  (26, (.iadd, 0, 0)),
  (27, (.putfield 45, 0, 5)),
  (30, (.aload_n 0, 0, 0)),
  (31, (.getfield 45, 0, 5)),
  (34, (.ireturn, 0, 0))], [])
/-- WasmCore.run(I)I -/
def M_13 : xM := ("WasmCore", ⟨"WasmCore", "run", "(I)I"⟩, prog_1_method_10_code, 3, (some .int), [
  (0, (.iload_n 1, 0, 0)),
  (1, (.ifCond .lt 10, 0, 11)),
  (4, (.iload_n 1, 0, 0)),
  (5, (.sipush 500, 0, 0)),
  (8, (.if_icmp .le 5, 0, 13)),
  (11, (.iconst (-1), 0, 0)),
  (12, (.ireturn, 0, 0)),
  (13, (.iconst 0, 0, 0)),
  (14, (.istore_n 2, 0, 0)),
  (15, (.iload_n 2, 0, 0)),
  (16, (.iload_n 1, 0, 0)),
  (17, (.if_icmp .ge 28, 0, 45)),
  (20, (.aload_n 0, 0, 0)),
  (21, (.getfield 49, 0, 6)),
  (24, (.iconst 2, 0, 0)),
  (25, (.if_icmp .ne 20, 0, 45)),
  (28, (.aload_n 0, 0, 0)),
  (29, (.aload_n 0, 0, 0)),
  (30, (.getfield 37, 0, 3)),
  (33, (.invokevirtual 146, 0, 64225)),
  (36, (.invokevirtual 149, 0, 914)),
  (39, (.iinc 2 1, 0, 0)),
  (42, (.goto (-27), 0, 15)),
  (45, (.iload_n 2, 0, 0)),
  (46, (.ireturn, 0, 0))], [])
/-- WasmCore$Machine.step()I -/
def M_14 : xM := ("WasmCore$Machine", ⟨"WasmCore$Machine", "step", "()I"⟩, prog_4_method_6_code, 3, (some .int), [
  (0, (.aload_n 0, 0, 0)),
  (1, (.getfield 24, 0, 261)),
  (4, (.istore_n 1, 0, 0)),
  (5, (.aload_n 0, 0, 0)),
  (6, (.getfield 45, 0, 256)),
  (9, (.getfield 78, 0, 64)),
  (12, (.iload_n 1, 0, 0)),
  (13, (.iaload, 0, 0)),
  (14, (.istore_n 2, 0, 0)),
  (15, (.aload_n 0, 0, 0)),
  (16, (.iload_n 1, 0, 0)),
  (17, (.aload_n 0, 0, 0)),
  (18, (.getfield 45, 0, 256)),
  (21, (.iload_n 1, 0, 0)),
  (22, (.invokevirtual 81, 0, 16242)),
  (25, (.iadd, 0, 0)),
  (26, (.putfield 24, 0, 261)),
  (29, (.iload_n 2, 0, 0)),
  (30, (.bipush 16, 0, 0)),
  (32, (.if_icmp .gt 10, 0, 42)),
  (35, (.aload_n 0, 0, 0)),
  (36, (.iload_n 2, 0, 0)),
  (37, (.iload_n 1, 0, 0)),
  (38, (.invokevirtual 86, 0, 64291)),
  (41, (.ireturn, 0, 0)),
  (42, (.iload_n 2, 0, 0)),
  (43, (.bipush 36, 0, 0)),
  (45, (.if_icmp .gt 10, 0, 55)),
  (48, (.aload_n 0, 0, 0)),
  (49, (.iload_n 2, 0, 0)),
  (50, (.iload_n 1, 0, 0)),
  (51, (.invokevirtual 90, 0, 64515)),
  (54, (.ireturn, 0, 0)),
  (55, (.iload_n 2, 0, 0)),
  (56, (.bipush 64, 0, 0)),
  (58, (.if_icmp .gt 10, 0, 68)),
  (61, (.aload_n 0, 0, 0)),
  (62, (.iload_n 2, 0, 0)),
  (63, (.iload_n 1, 0, 0)),
  (64, (.invokevirtual 93, 0, 64563)),
  (67, (.ireturn, 0, 0)),
  (68, (.iload_n 2, 0, 0)),
  (69, (.bipush 65, 0, 0)),
  (71, (.if_icmp .ne 21, 0, 92)),
  (74, (.aload_n 0, 0, 0)),
  (75, (.aload_n 0, 0, 0)),
  (76, (.getfield 45, 0, 256)),
  (79, (.getfield 78, 0, 64)),
  (82, (.iload_n 1, 0, 0)),
  (83, (.iconst 1, 0, 0)),
  (84, (.iadd, 0, 0)),
  (85, (.iaload, 0, 0)),
  (86, (.invokevirtual 96, 0, 64546)),
  (89, (.goto 8, 0, 97)),
  (92, (.aload_n 0, 0, 0)),
  (93, (.iload_n 2, 0, 0)),
  (94, (.invokevirtual 99, 0, 64706)),
  (97, (.ireturn, 0, 0))], [])
/-- WasmCore$Code.sizeAt(I)I -/
def M_15 : xM := ("WasmCore$Code", ⟨"WasmCore$Code", "sizeAt", "(I)I"⟩, prog_3_method_11_code, 3, (some .int), [
  (0, (.aload_n 0, 0, 0)),
  (1, (.getfield 9, 0, 64)),
  (4, (.iload_n 1, 0, 0)),
  (5, (.iaload, 0, 0)),
  (6, (.invokestatic 48, 0, 257)),
  (9, (.istore_n 2, 0, 0)),
  (10, (.iload_n 2, 0, 0)),
  (11, (.iconst 3, 0, 0)),
  (12, (.if_icmp .ne 14, 0, 26)),
  (15, (.iconst 3, 0, 0)),
  (16, (.aload_n 0, 0, 0)),
  (17, (.getfield 9, 0, 64)),
  (20, (.iload_n 1, 0, 0)),
  (21, (.iconst 1, 0, 0)),
  (22, (.iadd, 0, 0)),
  (23, (.iaload, 0, 0)),
  (24, (.iadd, 0, 0)),
  (25, (.ireturn, 0, 0)),
  (26, (.iload_n 2, 0, 0)),
  (27, (.ifCond .ne 7, 0, 34)),
  (30, (.iconst 1, 0, 0)),
  (31, (.goto 4, 0, 35)),
  (34, (.iconst 2, 0, 0)),
  (35, (.ireturn, 0, 0))], [])
/-- WasmCore$Op.shapeOf(I)I -/
def M_16 : xM := ("WasmCore$Op", ⟨"WasmCore$Op", "shapeOf", "(I)I"⟩, prog_7_method_2_code, 1, (some .int), [
  (0, (.iload_n 0, 0, 0)),
  (1, (.tableswitch 300 0 65 #[279, 279, 281, 281, 281, 279, 300, 300, 300, 300, 300, 279, 283, 283, 285, 279, 287, 300, 300, 300, 300, 300, 300, 300, 300, 300, 279, 279, 300, 300, 300, 300, 289, 289, 289, 291, 291, 300, 300, 300, 294, 300, 300, 300, 294, 294, 294, 294, 300, 300, 300, 300, 300, 300, 294, 300, 300, 300, 294, 294, 300, 300, 300, 279, 279, 297], 279, 0)),
  (280, (.iconst 0, 0, 0)),
  (281, (.ireturn, 0, 0)),
  (282, (.iconst 1, 0, 0)),
  (283, (.ireturn, 0, 0)),
  (284, (.iconst 2, 0, 0)),
  (285, (.ireturn, 0, 0)),
  (286, (.iconst 3, 0, 0)),
  (287, (.ireturn, 0, 0)),
  (288, (.iconst 4, 0, 0)),
  (289, (.ireturn, 0, 0)),
  (290, (.iconst 5, 0, 0)),
  (291, (.ireturn, 0, 0)),
  (292, (.bipush 6, 0, 0)),
  (294, (.ireturn, 0, 0)),
  (295, (.bipush 7, 0, 0)),
  (297, (.ireturn, 0, 0)),
  (298, (.bipush 8, 0, 0)),
  (300, (.ireturn, 0, 0)),
  (301, (.iload_n 0, 0, 0)),
  (302, (.invokestatic 9, 0, 273)),
  (305, (.ifCond .eq 7, 0, 312)),
  (308, (.iconst 0, 0, 0)),
  (309, (.goto 4, 0, 313)),
  (312, (.iconst (-1), 0, 0)),
  (313, (.ireturn, 0, 0))], [])
/-- WasmCore$Op.isNumeric(I)Z -/
def M_17 : xM := ("WasmCore$Op", ⟨"WasmCore$Op", "isNumeric", "(I)Z"⟩, prog_7_method_3_code, 1, (some .boolean), [
  (0, (.iload_n 0, 0, 0)),
  (1, (.bipush 69, 0, 0)),
  (3, (.if_icmp .lt 9, 0, 12)),
  (6, (.iload_n 0, 0, 0)),
  (7, (.bipush 79, 0, 0)),
  (9, (.if_icmp .le 15, 0, 24)),
  (12, (.iload_n 0, 0, 0)),
  (13, (.bipush 103, 0, 0)),
  (15, (.if_icmp .lt 13, 0, 28)),
  (18, (.iload_n 0, 0, 0)),
  (19, (.bipush 120, 0, 0)),
  (21, (.if_icmp .gt 7, 0, 28)),
  (24, (.iconst 1, 0, 0)),
  (25, (.goto 4, 0, 29)),
  (28, (.iconst 0, 0, 0)),
  (29, (.ireturn, 0, 1))], [])
/-- WasmCore$Machine.control(II)I -/
def M_18 : xM := ("WasmCore$Machine", ⟨"WasmCore$Machine", "control", "(II)I"⟩, prog_4_method_7_code, 3, (some .int), [
  (0, (.iload_n 1, 0, 0)),
  (1, (.tableswitch 227 0 16 #[83, 227, 227, 227, 85, 102, 227, 227, 227, 227, 227, 117, 152, 160, 179, 206, 211], 83, 0)),
  (84, (.iconst 1, 0, 0)),
  (85, (.ireturn, 0, 0)),
  (86, (.aload_n 0, 0, 0)),
  (87, (.invokevirtual 102, 0, 64305)),
  (90, (.ifCond .eq 7, 0, 97)),
  (93, (.iconst 0, 0, 0)),
  (94, (.goto 8, 0, 102)),
  (97, (.aload_n 0, 0, 0)),
  (98, (.iload_n 2, 0, 0)),
  (99, (.invokevirtual 106, 0, 64322)),
  (102, (.ireturn, 0, 0)),
  (103, (.aload_n 0, 0, 0)),
  (104, (.aload_n 0, 0, 0)),
  (105, (.getfield 45, 0, 256)),
  (108, (.getfield 109, 0, 71)),
  (111, (.iload_n 2, 0, 0)),
  (112, (.iaload, 0, 0)),
  (113, (.putfield 24, 0, 261)),
  (116, (.iconst 0, 0, 0)),
  (117, (.ireturn, 0, 0)),
  (118, (.aload_n 0, 0, 0)),
  (119, (.getfield 24, 0, 261)),
  (122, (.aload_n 0, 0, 0)),
  (123, (.getfield 45, 0, 256)),
  (126, (.getfield 112, 0, 67)),
  (129, (.aload_n 0, 0, 0)),
  (130, (.getfield 33, 0, 264)),
  (133, (.aload_n 0, 0, 0)),
  (134, (.getfield 30, 0, 263)),
  (137, (.iconst 1, 0, 0)),
  (138, (.isub, 0, 0)),
  (139, (.iaload, 0, 0)),
  (140, (.iaload, 0, 0)),
  (141, (.if_icmp .ne 10, 0, 151)),
  (144, (.aload_n 0, 0, 0)),
  (145, (.invokevirtual 115, 0, 64337)),
  (148, (.goto 4, 0, 152)),
  (151, (.iconst 0, 0, 0)),
  (152, (.ireturn, 0, 0)),
  (153, (.aload_n 0, 0, 0)),
  (154, (.iload_n 2, 0, 0)),
  (155, (.iconst 1, 0, 0)),
  (156, (.iadd, 0, 0)),
  (157, (.invokevirtual 118, 0, 64370)),
  (160, (.ireturn, 0, 0)),
  (161, (.aload_n 0, 0, 0)),
  (162, (.invokevirtual 102, 0, 64305)),
  (165, (.ifCond .eq 13, 0, 178)),
  (168, (.aload_n 0, 0, 0)),
  (169, (.iload_n 2, 0, 0)),
  (170, (.iconst 1, 0, 0)),
  (171, (.iadd, 0, 0)),
  (172, (.invokevirtual 118, 0, 64370)),
  (175, (.goto 4, 0, 179)),
  (178, (.iconst 0, 0, 0)),
  (179, (.ireturn, 0, 0)),
  (180, (.aload_n 0, 0, 0)),
  (181, (.iload_n 2, 0, 0)),
  (182, (.iconst 2, 0, 0)),
  (183, (.iadd, 0, 0)),
  (184, (.aload_n 0, 0, 0)),
  (185, (.invokevirtual 102, 0, 64305)),
  (188, (.aload_n 0, 0, 0)),
  (189, (.getfield 45, 0, 256)),
  (192, (.getfield 78, 0, 64)),
  (195, (.iload_n 2, 0, 0)),
  (196, (.iconst 1, 0, 0)),
  (197, (.iadd, 0, 0)),
  (198, (.iaload, 0, 0)),
  (199, (.invokestatic 121, 0, 386)),
  (202, (.iadd, 0, 0)),
  (203, (.invokevirtual 118, 0, 64370)),
  (206, (.ireturn, 0, 0)),
  (207, (.aload_n 0, 0, 0)),
  (208, (.invokevirtual 115, 0, 64337)),
  (211, (.ireturn, 0, 0)),
  (212, (.aload_n 0, 0, 0)),
  (213, (.aload_n 0, 0, 0)),
  (214, (.getfield 45, 0, 256)),
  (217, (.getfield 78, 0, 64)),
  (220, (.iload_n 2, 0, 0)),
  (221, (.iconst 1, 0, 0)),
  (222, (.iadd, 0, 0)),
  (223, (.iaload, 0, 0)),
  (224, (.invokevirtual 68, 0, 64434)),
  (227, (.ireturn, 0, 0)),
  (228, (.iconst 0, 0, 0)),
  (229, (.ireturn, 0, 0))], [])
/-- WasmCore$Machine.pop()I -/
def M_19 : xM := ("WasmCore$Machine", ⟨"WasmCore$Machine", "pop", "()I"⟩, prog_4_method_16_code, 1, (some .int), [
  (0, (.aload_n 0, 0, 0)),
  (1, (.dup, 0, 0)),
  (2, (.getfield 20, 0, 260)),
  (5, (.iconst 1, 0, 0)),
  (6, (.isub, 0, 0)),
  (7, (.putfield 20, 0, 260)),
  (10, (.aload_n 0, 0, 0)),
  (11, (.getfield 17, 0, 259)),
  (14, (.aload_n 0, 0, 0)),
  (15, (.getfield 20, 0, 260)),
  (18, (.iaload, 0, 0)),
  (19, (.ireturn, 0, 0))], [])
/-- WasmCore$Machine.passOver(I)I -/
def M_20 : xM := ("WasmCore$Machine", ⟨"WasmCore$Machine", "passOver", "(I)I"⟩, prog_4_method_8_code, 3, (some .int), [
  (0, (.aload_n 0, 0, 0)),
  (1, (.getfield 45, 0, 256)),
  (4, (.getfield 124, 0, 72)),
  (7, (.iload_n 1, 0, 0)),
  (8, (.iaload, 0, 0)),
  (9, (.istore_n 2, 0, 0)),
  (10, (.aload_n 0, 0, 0)),
  (11, (.iload_n 2, 0, 0)),
  (12, (.iconst (-1), 0, 0)),
  (13, (.if_icmp .ne 15, 0, 28)),
  (16, (.aload_n 0, 0, 0)),
  (17, (.getfield 45, 0, 256)),
  (20, (.getfield 109, 0, 71)),
  (23, (.iload_n 1, 0, 0)),
  (24, (.iaload, 0, 0)),
  (25, (.goto 6, 0, 31)),
  (28, (.iload_n 2, 0, 0)),
  (29, (.iconst 1, 0, 0)),
  (30, (.iadd, 0, 0)),
  (31, (.putfield 24, 0, 261)),
  (34, (.iconst 0, 0, 0)),
  (35, (.ireturn, 0, 0))], [])
/-- WasmCore$Machine.leave()I -/
def M_21 : xM := ("WasmCore$Machine", ⟨"WasmCore$Machine", "leave", "()I"⟩, prog_4_method_13_code, 3, (some .int), [
  (0, (.aload_n 0, 0, 0)),
  (1, (.getfield 30, 0, 263)),
  (4, (.iconst 1, 0, 0)),
  (5, (.isub, 0, 0)),
  (6, (.istore_n 1, 0, 0)),
  (7, (.aload_n 0, 0, 0)),
  (8, (.getfield 45, 0, 256)),
  (11, (.getfield 148, 0, 70)),
  (14, (.aload_n 0, 0, 0)),
  (15, (.getfield 33, 0, 264)),
  (18, (.iload_n 1, 0, 0)),
  (19, (.iaload, 0, 0)),
  (20, (.iaload, 0, 0)),
  (21, (.istore_n 2, 0, 0)),
  (22, (.aload_n 0, 0, 0)),
  (23, (.aload_n 0, 0, 0)),
  (24, (.getfield 39, 0, 266)),
  (27, (.iload_n 1, 0, 0)),
  (28, (.iaload, 0, 0)),
  (29, (.iload_n 2, 0, 0)),
  (30, (.invokevirtual 138, 0, 64355)),
  (33, (.aload_n 0, 0, 0)),
  (34, (.aload_n 0, 0, 0)),
  (35, (.getfield 36, 0, 265)),
  (38, (.iload_n 1, 0, 0)),
  (39, (.iaload, 0, 0)),
  (40, (.putfield 24, 0, 261)),
  (43, (.aload_n 0, 0, 0)),
  (44, (.iload_n 1, 0, 0)),
  (45, (.putfield 30, 0, 263)),
  (48, (.aload_n 0, 0, 0)),
  (49, (.getfield 30, 0, 263)),
  (52, (.ifCond .le 5, 0, 57)),
  (55, (.iconst 0, 0, 0)),
  (56, (.ireturn, 0, 0)),
  (57, (.aload_n 0, 0, 0)),
  (58, (.iload_n 2, 0, 0)),
  (59, (.iconst 1, 0, 0)),
  (60, (.if_icmp .ne 10, 0, 70)),
  (63, (.aload_n 0, 0, 0)),
  (64, (.invokevirtual 102, 0, 64305)),
  (67, (.goto 4, 0, 71)),
  (70, (.iconst 0, 0, 0)),
  (71, (.putfield 27, 0, 262)),
  (74, (.iconst (-1), 0, 0)),
  (75, (.ireturn, 0, 0))], [])
/-- WasmCore$Machine.fallTo(II)V -/
def M_22 : xM := ("WasmCore$Machine", ⟨"WasmCore$Machine", "fallTo", "(II)V"⟩, prog_4_method_11_code, 3, none, [
  (0, (.iload_n 2, 0, 0)),
  (1, (.iconst 1, 0, 0)),
  (2, (.if_icmp .ne 20, 0, 22)),
  (5, (.aload_n 0, 0, 0)),
  (6, (.getfield 17, 0, 259)),
  (9, (.iload_n 1, 0, 0)),
  (10, (.aload_n 0, 0, 0)),
  (11, (.getfield 17, 0, 259)),
  (14, (.aload_n 0, 0, 0)),
  (15, (.getfield 20, 0, 260)),
  (18, (.iconst 1, 0, 0)),
  (19, (.isub, 0, 0)),
  (20, (.iaload, 0, 0)),
  (21, (.iastore, 0, 0)),
  (22, (.aload_n 0, 0, 0)),
  (23, (.iload_n 1, 0, 0)),
  (24, (.iload_n 2, 0, 0)),
  (25, (.iadd, 0, 0)),
  (26, (.putfield 20, 0, 260)),
  (29, (.return_, 0, 0))], [])
/-- WasmCore$Machine.branch(I)I -/
def M_23 : xM := ("WasmCore$Machine", ⟨"WasmCore$Machine", "branch", "(I)I"⟩, prog_4_method_10_code, 4, (some .int), [
  (0, (.aload_n 0, 0, 0)),
  (1, (.getfield 45, 0, 256)),
  (4, (.getfield 132, 0, 74)),
  (7, (.iload_n 1, 0, 0)),
  (8, (.iaload, 0, 0)),
  (9, (.istore_n 2, 0, 0)),
  (10, (.iload_n 2, 0, 0)),
  (11, (.iconst (-1), 0, 0)),
  (12, (.if_icmp .ne 8, 0, 20)),
  (15, (.aload_n 0, 0, 0)),
  (16, (.invokevirtual 115, 0, 64337)),
  (19, (.ireturn, 0, 0)),
  (20, (.aload_n 0, 0, 0)),
  (21, (.getfield 45, 0, 256)),
  (24, (.getfield 78, 0, 64)),
  (27, (.iload_n 2, 0, 0)),
  (28, (.iaload, 0, 0)),
  (29, (.iconst 3, 0, 0)),
  (30, (.if_icmp .ne 7, 0, 37)),
  (33, (.iconst 1, 0, 0)),
  (34, (.goto 4, 0, 38)),
  (37, (.iconst 0, 0, 0)),
  (38, (.istore_n 3, 0, 0)),
  (39, (.aload_n 0, 0, 0)),
  (40, (.aload_n 0, 0, 0)),
  (41, (.getfield 39, 0, 266)),
  (44, (.aload_n 0, 0, 0)),
  (45, (.getfield 30, 0, 263)),
  (48, (.iconst 1, 0, 0)),
  (49, (.isub, 0, 0)),
  (50, (.iaload, 0, 0)),
  (51, (.aload_n 0, 0, 0)),
  (52, (.getfield 45, 0, 256)),
  (55, (.getfield 135, 0, 73)),
  (58, (.iload_n 2, 0, 0)),
  (59, (.iaload, 0, 0)),
  (60, (.iadd, 0, 0)),
  (61, (.iload_n 3, 0, 0)),
  (62, (.ifCond .eq 7, 0, 69)),
  (65, (.iconst 0, 0, 0)),
  (66, (.goto 14, 0, 80)),
  (69, (.aload_n 0, 0, 0)),
  (70, (.getfield 45, 0, 256)),
  (73, (.getfield 78, 0, 64)),
  (76, (.iload_n 2, 0, 0)),
  (77, (.iconst 1, 0, 0)),
  (78, (.iadd, 0, 0)),
  (79, (.iaload, 0, 0)),
  (80, (.invokevirtual 138, 0, 64355)),
  (83, (.aload_n 0, 0, 0)),
  (84, (.iload_n 3, 0, 0)),
  (85, (.ifCond .eq 9, 0, 94)),
  (88, (.iload_n 2, 0, 0)),
  (89, (.iconst 2, 0, 0)),
  (90, (.iadd, 0, 0)),
  (91, (.goto 14, 0, 105)),
  (94, (.aload_n 0, 0, 0)),
  (95, (.getfield 45, 0, 256)),
  (98, (.getfield 109, 0, 71)),
  (101, (.iload_n 2, 0, 0)),
  (102, (.iaload, 0, 0)),
  (103, (.iconst 1, 0, 0)),
  (104, (.iadd, 0, 0)),
  (105, (.putfield 24, 0, 261)),
  (108, (.iconst 0, 0, 0)),
  (109, (.ireturn, 0, 0))], [])
/-- WasmCore$Machine.chosen(II)I -/
def M_24 : xM := ("WasmCore$Machine", ⟨"WasmCore$Machine", "chosen", "(II)I"⟩, prog_4_method_9_code, 2, (some .int), [
  (0, (.iload_n 0, 0, 0)),
  (1, (.iload_n 1, 0, 0)),
  (2, (.invokestatic 127, 0, 402)),
  (5, (.ifCond .ge 7, 0, 12)),
  (8, (.iload_n 0, 0, 0)),
  (9, (.goto 4, 0, 13)),
  (12, (.iload_n 1, 0, 0)),
  (13, (.ireturn, 0, 0))], [])
/-- java/lang/Integer.compareUnsigned(II)I -/
def M_25 : xM := ("java/lang/Integer", ⟨"java/lang/Integer", "compareUnsigned", "(II)I"⟩, prog_14_method_41_code, 2, (some .int), [
  (0, (.iload_n 0, 0, 0)),
  (1, (.ldc 127, 0, 2147483648)),
  (3, (.iadd, 0, 0)),
  (4, (.iload_n 1, 0, 0)),
  (5, (.ldc 127, 0, 2147483648)),
  (7, (.iadd, 0, 0)),
  (8, (.invokestatic 259, 0, 418)),
  (11, (.ireturn, 0, 0))], [])
/-- java/lang/Integer.compare(II)I -/
def M_26 : xM := ("java/lang/Integer", ⟨"java/lang/Integer", "compare", "(II)I"⟩, prog_14_method_40_code, 2, (some .int), [
  (0, (.iload_n 0, 0, 0)),
  (1, (.iload_n 1, 0, 0)),
  (2, (.if_icmp .ge 7, 0, 9)),
  (5, (.iconst (-1), 0, 0)),
  (6, (.goto 13, 0, 19)),
  (9, (.iload_n 0, 0, 0)),
  (10, (.iload_n 1, 0, 0)),
  (11, (.if_icmp .ne 7, 0, 18)),
  (14, (.iconst 0, 0, 0)),
  (15, (.goto 4, 0, 19)),
  (18, (.iconst 1, 0, 0)),
  (19, (.ireturn, 0, 0))], [])
/-- WasmCore$Machine.enter(I)I -/
def M_27 : xM := ("WasmCore$Machine", ⟨"WasmCore$Machine", "enter", "(I)I"⟩, prog_4_method_12_code, 4, (some .int), [
  (0, (.aload_n 0, 0, 0)),
  (1, (.getfield 30, 0, 263)),
  (4, (.bipush 6, 0, 0)),
  (6, (.if_icmp .ne 6, 0, 12)),
  (9, (.bipush 6, 0, 0)),
  (11, (.ireturn, 0, 0)),
  (12, (.aload_n 0, 0, 0)),
  (13, (.getfield 45, 0, 256)),
  (16, (.getfield 59, 0, 68)),
  (19, (.iload_n 1, 0, 0)),
  (20, (.iaload, 0, 0)),
  (21, (.istore_n 2, 0, 0)),
  (22, (.aload_n 0, 0, 0)),
  (23, (.dup, 0, 0)),
  (24, (.getfield 20, 0, 260)),
  (27, (.iload_n 2, 0, 0)),
  (28, (.isub, 0, 0)),
  (29, (.putfield 20, 0, 260)),
  (32, (.aload_n 0, 0, 0)),
  (33, (.getfield 33, 0, 264)),
  (36, (.aload_n 0, 0, 0)),
  (37, (.getfield 30, 0, 263)),
  (40, (.iload_n 1, 0, 0)),
  (41, (.iastore, 0, 0)),
  (42, (.aload_n 0, 0, 0)),
  (43, (.getfield 36, 0, 265)),
  (46, (.aload_n 0, 0, 0)),
  (47, (.getfield 30, 0, 263)),
  (50, (.aload_n 0, 0, 0)),
  (51, (.getfield 24, 0, 261)),
  (54, (.iastore, 0, 0)),
  (55, (.aload_n 0, 0, 0)),
  (56, (.getfield 39, 0, 266)),
  (59, (.aload_n 0, 0, 0)),
  (60, (.getfield 30, 0, 263)),
  (63, (.aload_n 0, 0, 0)),
  (64, (.getfield 20, 0, 260)),
  (67, (.iastore, 0, 0)),
  (68, (.aload_n 0, 0, 0)),
  (69, (.dup, 0, 0)),
  (70, (.getfield 30, 0, 263)),
  (73, (.iconst 1, 0, 0)),
  (74, (.iadd, 0, 0)),
  (75, (.putfield 30, 0, 263)),
  (78, (.aload_n 0, 0, 0)),
  (79, (.iconst 0, 0, 0)),
  (80, (.invokevirtual 75, 0, 64450)),
  (83, (.istore_n 3, 0, 0)),
  (84, (.aload_n 0, 0, 0)),
  (85, (.getfield 42, 0, 267)),
  (88, (.iload_n 3, 0, 0)),
  (89, (.iload_n 3, 0, 0)),
  (90, (.bipush 8, 0, 0)),
  (92, (.iadd, 0, 0)),
  (93, (.iconst 0, 0, 0)),
  (94, (.invokestatic 142, 0, 468)),
  (97, (.aload_n 0, 0, 0)),
  (98, (.getfield 17, 0, 259)),
  (101, (.aload_n 0, 0, 0)),
  (102, (.getfield 20, 0, 260)),
  (105, (.aload_n 0, 0, 0)),
  (106, (.getfield 42, 0, 267)),
  (109, (.iload_n 3, 0, 0)),
  (110, (.iload_n 2, 0, 0)),
  (111, (.invokestatic 62, 0, 14421)),
  (114, (.aload_n 0, 0, 0)),
  (115, (.aload_n 0, 0, 0)),
  (116, (.getfield 45, 0, 256)),
  (119, (.iload_n 1, 0, 0)),
  (120, (.invokevirtual 145, 0, 16498)),
  (123, (.putfield 24, 0, 261)),
  (126, (.iconst 0, 0, 0)),
  (127, (.ireturn, 0, 0))], [])
/-- WasmCore$Machine.localPlace(I)I -/
def M_28 : xM := ("WasmCore$Machine", ⟨"WasmCore$Machine", "localPlace", "(I)I"⟩, prog_4_method_14_code, 2, (some .int), [
  (0, (.aload_n 0, 0, 0)),
  (1, (.getfield 30, 0, 263)),
  (4, (.iconst 1, 0, 0)),
  (5, (.isub, 0, 0)),
  (6, (.bipush 8, 0, 0)),
  (8, (.imul, 0, 0)),
  (9, (.iload_n 1, 0, 0)),
  (10, (.iadd, 0, 0)),
  (11, (.ireturn, 0, 0))], [])
/-- java/util/Arrays.fill([IIII)V -/
def M_29 : xM := ("java/util/Arrays", ⟨"java/util/Arrays", "fill", "([IIII)V"⟩, prog_19_method_104_code, 5, none, [
  (0, (.aload_n 0, 0, 0)),
  (1, (.arraylength, 0, 0)),
  (2, (.iload_n 1, 0, 0)),
  (3, (.iload_n 2, 0, 0)),
  (4, (.invokestatic 13, 0, 483)),
  (7, (.iload_n 1, 0, 0)),
  (8, (.istore 4, 0, 0)),
  (10, (.iload 4, 0, 0)),
  (12, (.iload_n 2, 0, 0)),
  (13, (.if_icmp .ge 14, 0, 27)),
  (16, (.aload_n 0, 0, 0)),
  (17, (.iload 4, 0, 0)),
  (19, (.iload_n 3, 0, 0)),
  (20, (.iastore, 0, 0)),
  (21, (.iinc 4 1, 0, 0)),
  (24, (.goto (-14), 0, 10)),
  (27, (.return_, 0, 0))], [])
/-- java/util/Arrays.rangeCheck(III)V -/
def M_30 : xM := ("java/util/Arrays", ⟨"java/util/Arrays", "rangeCheck", "(III)V"⟩, prog_19_method_30_code, 3, none, [
  (0, (.iload_n 1, 0, 0)),
  (1, (.iload_n 2, 0, 0)),
  (2, (.if_icmp .le 44, 0, 46)),
  (8, (.dup, 0, 0)),
  (12, (.dup, 0, 0)),
  (21, (.iload_n 1, 0, 0)),
  (30, (.iload_n 2, 0, 0)),
  (46, (.iload_n 1, 0, 0)),
  (47, (.ifCond .ge 12, 0, 59)),
  (53, (.dup, 0, 0)),
  (54, (.iload_n 1, 0, 0)),
  (59, (.iload_n 2, 0, 0)),
  (60, (.iload_n 0, 0, 0)),
  (61, (.if_icmp .le 12, 0, 73)),
  (67, (.dup, 0, 0)),
  (68, (.iload_n 2, 0, 0)),
  (73, (.return_, 0, 0))], [])
/-- WasmCore$Code.bodyStart(I)I -/
def M_31 : xM := ("WasmCore$Code", ⟨"WasmCore$Code", "bodyStart", "(I)I"⟩, prog_3_method_10_code, 2, (some .int), [
  (0, (.iload_n 1, 0, 0)),
  (1, (.ifCond .ne 7, 0, 8)),
  (4, (.iconst 0, 0, 0)),
  (5, (.goto 11, 0, 16)),
  (8, (.aload_n 0, 0, 0)),
  (9, (.getfield 20, 0, 67)),
  (12, (.iload_n 1, 0, 0)),
  (13, (.iconst 1, 0, 0)),
  (14, (.isub, 0, 0)),
  (15, (.iaload, 0, 0)),
  (16, (.ireturn, 0, 0))], [])
/-- WasmCore$Machine.move(II)I -/
def M_32 : xM := ("WasmCore$Machine", ⟨"WasmCore$Machine", "move", "(II)I"⟩, prog_4_method_17_code, 4, (some .int), [
  (0, (.iload_n 1, 0, 0)),
  (1, (.bipush 26, 0, 0)),
  (3, (.if_icmp .ne 15, 0, 18)),
  (6, (.aload_n 0, 0, 0)),
  (7, (.dup, 0, 0)),
  (8, (.getfield 20, 0, 260)),
  (11, (.iconst 1, 0, 0)),
  (12, (.isub, 0, 0)),
  (13, (.putfield 20, 0, 260)),
  (16, (.iconst 0, 0, 0)),
  (17, (.ireturn, 0, 0)),
  (18, (.iload_n 1, 0, 0)),
  (19, (.bipush 27, 0, 0)),
  (21, (.if_icmp .ne 8, 0, 29)),
  (24, (.aload_n 0, 0, 0)),
  (25, (.invokevirtual 151, 0, 64529)),
  (28, (.ireturn, 0, 0)),
  (29, (.aload_n 0, 0, 0)),
  (30, (.getfield 45, 0, 256)),
  (33, (.getfield 78, 0, 64)),
  (36, (.iload_n 2, 0, 0)),
  (37, (.iconst 1, 0, 0)),
  (38, (.iadd, 0, 0)),
  (39, (.iaload, 0, 0)),
  (40, (.istore_n 3, 0, 0)),
  (41, (.iload_n 1, 0, 0)),
  (42, (.tableswitch 95 32 35 #[30, 45, 61, 84], 30, 0)),
  (72, (.aload_n 0, 0, 0)),
  (73, (.aload_n 0, 0, 0)),
  (74, (.getfield 42, 0, 267)),
  (77, (.aload_n 0, 0, 0)),
  (78, (.iload_n 3, 0, 0)),
  (79, (.invokevirtual 75, 0, 64450)),
  (82, (.iaload, 0, 0)),
  (83, (.invokevirtual 96, 0, 64546)),
  (86, (.ireturn, 0, 0)),
  (87, (.aload_n 0, 0, 0)),
  (88, (.getfield 42, 0, 267)),
  (91, (.aload_n 0, 0, 0)),
  (92, (.iload_n 3, 0, 0)),
  (93, (.invokevirtual 75, 0, 64450)),
  (96, (.aload_n 0, 0, 0)),
  (97, (.invokevirtual 102, 0, 64305)),
  (100, (.iastore, 0, 0)),
  (101, (.iconst 0, 0, 0)),
  (102, (.ireturn, 0, 0)),
  (103, (.aload_n 0, 0, 0)),
  (104, (.getfield 42, 0, 267)),
  (107, (.aload_n 0, 0, 0)),
  (108, (.iload_n 3, 0, 0)),
  (109, (.invokevirtual 75, 0, 64450)),
  (112, (.aload_n 0, 0, 0)),
  (113, (.getfield 17, 0, 259)),
  (116, (.aload_n 0, 0, 0)),
  (117, (.getfield 20, 0, 260)),
  (120, (.iconst 1, 0, 0)),
  (121, (.isub, 0, 0)),
  (122, (.iaload, 0, 0)),
  (123, (.iastore, 0, 0)),
  (124, (.iconst 0, 0, 0)),
  (125, (.ireturn, 0, 0)),
  (126, (.aload_n 0, 0, 0)),
  (127, (.aload_n 0, 0, 0)),
  (128, (.getfield 13, 0, 258)),
  (131, (.iload_n 3, 0, 0)),
  (132, (.iaload, 0, 0)),
  (133, (.invokevirtual 96, 0, 64546)),
  (136, (.ireturn, 0, 0)),
  (137, (.aload_n 0, 0, 0)),
  (138, (.getfield 13, 0, 258)),
  (141, (.iload_n 3, 0, 0)),
  (142, (.aload_n 0, 0, 0)),
  (143, (.invokevirtual 102, 0, 64305)),
  (146, (.iastore, 0, 0)),
  (147, (.iconst 0, 0, 0)),
  (148, (.ireturn, 0, 0))], [])
/-- WasmCore$Machine.select()I -/
def M_33 : xM := ("WasmCore$Machine", ⟨"WasmCore$Machine", "select", "()I"⟩, prog_4_method_18_code, 3, (some .int), [
  (0, (.aload_n 0, 0, 0)),
  (1, (.invokevirtual 102, 0, 64305)),
  (4, (.istore_n 1, 0, 0)),
  (5, (.aload_n 0, 0, 0)),
  (6, (.invokevirtual 102, 0, 64305)),
  (9, (.istore_n 2, 0, 0)),
  (10, (.iload_n 1, 0, 0)),
  (11, (.ifCond .ne 15, 0, 26)),
  (14, (.aload_n 0, 0, 0)),
  (15, (.getfield 17, 0, 259)),
  (18, (.aload_n 0, 0, 0)),
  (19, (.getfield 20, 0, 260)),
  (22, (.iconst 1, 0, 0)),
  (23, (.isub, 0, 0)),
  (24, (.iload_n 2, 0, 0)),
  (25, (.iastore, 0, 0)),
  (26, (.iconst 0, 0, 0)),
  (27, (.ireturn, 0, 0))], [])
/-- WasmCore$Machine.push(I)I -/
def M_34 : xM := ("WasmCore$Machine", ⟨"WasmCore$Machine", "push", "(I)I"⟩, prog_4_method_15_code, 2, (some .int), [
  (0, (.aload_n 0, 0, 0)),
  (1, (.getfield 20, 0, 260)),
  (4, (.bipush 100, 0, 0)),
  (6, (.if_icmp .ne 5, 0, 11)),
  (9, (.iconst 5, 0, 0)),
  (10, (.ireturn, 0, 0)),
  (11, (.aload_n 0, 0, 0)),
  (12, (.getfield 17, 0, 259)),
  (15, (.aload_n 0, 0, 0)),
  (16, (.getfield 20, 0, 260)),
  (19, (.iload_n 1, 0, 0)),
  (20, (.iastore, 0, 0)),
  (21, (.aload_n 0, 0, 0)),
  (22, (.dup, 0, 0)),
  (23, (.getfield 20, 0, 260)),
  (26, (.iconst 1, 0, 0)),
  (27, (.iadd, 0, 0)),
  (28, (.putfield 20, 0, 260)),
  (31, (.iconst 0, 0, 0)),
  (32, (.ireturn, 0, 0))], [])
/-- WasmCore$Machine.useMemory(II)I -/
def M_35 : xM := ("WasmCore$Machine", ⟨"WasmCore$Machine", "useMemory", "(II)I"⟩, prog_4_method_19_code, 3, (some .int), [
  (0, (.iload_n 1, 0, 0)),
  (1, (.tableswitch 107 54 64 #[87, 107, 107, 107, 87, 87, 107, 107, 107, 59, 71], 59, 0)),
  (60, (.aload_n 0, 0, 0)),
  (61, (.aload_n 0, 0, 0)),
  (62, (.getfield 49, 0, 257)),
  (65, (.getfield 154, 0, 193)),
  (68, (.invokevirtual 96, 0, 64546)),
  (71, (.ireturn, 0, 0)),
  (72, (.aload_n 0, 0, 0)),
  (73, (.aload_n 0, 0, 0)),
  (74, (.getfield 49, 0, 257)),
  (77, (.aload_n 0, 0, 0)),
  (78, (.invokevirtual 102, 0, 64305)),
  (81, (.invokevirtual 159, 0, 48578)),
  (84, (.invokevirtual 96, 0, 64546)),
  (87, (.ireturn, 0, 0)),
  (88, (.aload_n 0, 0, 0)),
  (89, (.iload_n 1, 0, 0)),
  (90, (.invokestatic 162, 0, 593)),
  (93, (.aload_n 0, 0, 0)),
  (94, (.getfield 45, 0, 256)),
  (97, (.getfield 78, 0, 64)),
  (100, (.iload_n 2, 0, 0)),
  (101, (.iconst 1, 0, 0)),
  (102, (.iadd, 0, 0)),
  (103, (.iaload, 0, 0)),
  (104, (.invokevirtual 165, 0, 64611)),
  (107, (.ireturn, 0, 0)),
  (108, (.aload_n 0, 0, 0)),
  (109, (.iload_n 1, 0, 0)),
  (110, (.aload_n 0, 0, 0)),
  (111, (.getfield 45, 0, 256)),
  (114, (.getfield 78, 0, 64)),
  (117, (.iload_n 2, 0, 0)),
  (118, (.iconst 1, 0, 0)),
  (119, (.iadd, 0, 0)),
  (120, (.iaload, 0, 0)),
  (121, (.invokevirtual 168, 0, 64675)),
  (124, (.ireturn, 0, 0))], [])
/-- WasmCore$Memory.grow(I)I -/
def M_36 : xM := ("WasmCore$Memory", ⟨"WasmCore$Memory", "grow", "(I)I"⟩, prog_5_method_6_code, 3, (some .int), [
  (0, (.iload_n 1, 0, 0)),
  (1, (.iconst 4, 0, 0)),
  (2, (.aload_n 0, 0, 0)),
  (3, (.getfield 13, 0, 193)),
  (6, (.isub, 0, 0)),
  (7, (.invokestatic 23, 0, 402)),
  (10, (.ifCond .le 5, 0, 15)),
  (13, (.iconst (-1), 0, 0)),
  (14, (.ireturn, 0, 0)),
  (15, (.aload_n 0, 0, 0)),
  (16, (.getfield 13, 0, 193)),
  (19, (.istore_n 2, 0, 0)),
  (20, (.aload_n 0, 0, 0)),
  (21, (.dup, 0, 0)),
  (22, (.getfield 13, 0, 193)),
  (25, (.iload_n 1, 0, 0)),
  (26, (.iadd, 0, 0)),
  (27, (.putfield 13, 0, 193)),
  (30, (.iload_n 2, 0, 0)),
  (31, (.ireturn, 0, 0))], [])
/-- WasmCore$Op.bytesOf(I)I -/
def M_37 : xM := ("WasmCore$Op", ⟨"WasmCore$Op", "bytesOf", "(I)I"⟩, prog_7_method_8_code, 1, (some .int), [
  (0, (.iload_n 0, 0, 0)),
  (1, (.tableswitch 83 44 59 #[79, 79, 81, 81, 83, 83, 83, 83, 83, 83, 83, 83, 83, 83, 79, 81], 79, 0)),
  (80, (.iconst 1, 0, 0)),
  (81, (.ireturn, 0, 0)),
  (82, (.iconst 2, 0, 0)),
  (83, (.ireturn, 0, 0)),
  (84, (.iconst 4, 0, 0)),
  (85, (.ireturn, 0, 0))], [])
/-- WasmCore$Machine.store(II)I -/
def M_38 : xM := ("WasmCore$Machine", ⟨"WasmCore$Machine", "store", "(II)I"⟩, prog_4_method_20_code, 5, (some .int), [
  (0, (.aload_n 0, 0, 0)),
  (1, (.getfield 17, 0, 259)),
  (4, (.aload_n 0, 0, 0)),
  (5, (.getfield 20, 0, 260)),
  (8, (.iconst 2, 0, 0)),
  (9, (.isub, 0, 0)),
  (10, (.iaload, 0, 0)),
  (11, (.invokestatic 171, 0, 625)),
  (14, (.iload_n 2, 0, 0)),
  (15, (.i2l, 0, 0)),
  (16, (.ladd, 0, 0)),
  (17, (.lstore_n 3, 0, 0)),
  (18, (.aload_n 0, 0, 0)),
  (19, (.getfield 49, 0, 257)),
  (22, (.lload_n 3, 0, 0)),
  (23, (.iload_n 1, 0, 0)),
  (24, (.invokevirtual 175, 0, 48643)),
  (27, (.ifCond .ne 5, 0, 32)),
  (30, (.iconst 4, 0, 0)),
  (31, (.ireturn, 0, 0)),
  (32, (.aload_n 0, 0, 0)),
  (33, (.getfield 49, 0, 257)),
  (36, (.lload_n 3, 0, 0)),
  (37, (.l2i, 0, 0)),
  (38, (.aload_n 0, 0, 0)),
  (39, (.getfield 17, 0, 259)),
  (42, (.aload_n 0, 0, 0)),
  (43, (.getfield 20, 0, 260)),
  (46, (.iconst 1, 0, 0)),
  (47, (.isub, 0, 0)),
  (48, (.iaload, 0, 0)),
  (49, (.iload_n 1, 0, 0)),
  (50, (.invokevirtual 179, 0, 48660)),
  (53, (.aload_n 0, 0, 0)),
  (54, (.dup, 0, 0)),
  (55, (.getfield 20, 0, 260)),
  (58, (.iconst 2, 0, 0)),
  (59, (.isub, 0, 0)),
  (60, (.putfield 20, 0, 260)),
  (63, (.iconst 0, 0, 0)),
  (64, (.ireturn, 0, 0))], [])
/-- java/lang/Integer.toUnsignedLong(I)J -/
def M_39 : xM := ("java/lang/Integer", ⟨"java/lang/Integer", "toUnsignedLong", "(I)J"⟩, prog_14_method_42_code, 1, (some .long), [
  (0, (.iload_n 0, 0, 0)),
  (1, (.i2l, 0, 0)),
  (2, (.ldc2_w 262, 0, 4294967295)),
  (5, (.land, 0, 0)),
  (6, (.lreturn, 0, 0))], [])
/-- WasmCore$Memory.holds(JI)Z -/
def M_40 : xM := ("WasmCore$Memory", ⟨"WasmCore$Memory", "holds", "(JI)Z"⟩, prog_5_method_3_code, 4, (some .boolean), [
  (0, (.lload_n 1, 0, 0)),
  (1, (.lconst 0, 0, 0)),
  (2, (.lcmp, 0, 0)),
  (3, (.ifCond .lt 23, 0, 26)),
  (6, (.lload_n 1, 0, 0)),
  (7, (.iload_n 3, 0, 0)),
  (8, (.i2l, 0, 0)),
  (9, (.ladd, 0, 0)),
  (10, (.aload_n 0, 0, 0)),
  (11, (.getfield 13, 0, 193)),
  (14, (.bipush 64, 0, 0)),
  (16, (.imul, 0, 0)),
  (17, (.i2l, 0, 0)),
  (18, (.lcmp, 0, 0)),
  (19, (.ifCond .gt 7, 0, 26)),
  (22, (.iconst 1, 0, 0)),
  (23, (.goto 4, 0, 27)),
  (26, (.iconst 0, 0, 0)),
  (27, (.ireturn, 0, 1))], [])
/-- WasmCore$Memory.write(III)V -/
def M_41 : xM := ("WasmCore$Memory", ⟨"WasmCore$Memory", "write", "(III)V"⟩, prog_5_method_5_code, 5, none, [
  (0, (.iconst 0, 0, 0)),
  (1, (.istore 4, 0, 0)),
  (3, (.iload 4, 0, 0)),
  (5, (.iload_n 3, 0, 0)),
  (6, (.if_icmp .ge 26, 0, 32)),
  (9, (.aload_n 0, 0, 0)),
  (10, (.getfield 9, 0, 192)),
  (13, (.iload_n 1, 0, 0)),
  (14, (.iload 4, 0, 0)),
  (16, (.iadd, 0, 0)),
  (17, (.iload_n 2, 0, 0)),
  (18, (.bipush 8, 0, 0)),
  (20, (.iload 4, 0, 0)),
  (22, (.imul, 0, 0)),
  (23, (.ishr, 0, 0)),
  (24, (.i2b, 0, 0)),
  (25, (.bastore, 0, 0)),
  (26, (.iinc 4 1, 0, 0)),
  (29, (.goto (-26), 0, 3)),
  (32, (.return_, 0, 0))], [])
/-- WasmCore$Machine.load(II)I -/
def M_42 : xM := ("WasmCore$Machine", ⟨"WasmCore$Machine", "load", "(II)I"⟩, prog_4_method_21_code, 7, (some .int), [
  (0, (.iload_n 1, 0, 0)),
  (1, (.invokestatic 162, 0, 593)),
  (4, (.istore_n 3, 0, 0)),
  (5, (.aload_n 0, 0, 0)),
  (6, (.getfield 17, 0, 259)),
  (9, (.aload_n 0, 0, 0)),
  (10, (.getfield 20, 0, 260)),
  (13, (.iconst 1, 0, 0)),
  (14, (.isub, 0, 0)),
  (15, (.iaload, 0, 0)),
  (16, (.invokestatic 171, 0, 625)),
  (19, (.iload_n 2, 0, 0)),
  (20, (.i2l, 0, 0)),
  (21, (.ladd, 0, 0)),
  (22, (.lstore 4, 0, 0)),
  (24, (.aload_n 0, 0, 0)),
  (25, (.getfield 49, 0, 257)),
  (28, (.lload 4, 0, 0)),
  (30, (.iload_n 3, 0, 0)),
  (31, (.invokevirtual 175, 0, 48643)),
  (34, (.ifCond .ne 5, 0, 39)),
  (37, (.iconst 4, 0, 0)),
  (38, (.ireturn, 0, 0)),
  (39, (.aload_n 0, 0, 0)),
  (40, (.getfield 49, 0, 257)),
  (43, (.lload 4, 0, 0)),
  (45, (.l2i, 0, 0)),
  (46, (.iload_n 3, 0, 0)),
  (47, (.invokevirtual 183, 0, 48691)),
  (50, (.istore 6, 0, 0)),
  (52, (.iload_n 1, 0, 0)),
  (53, (.bipush 44, 0, 0)),
  (55, (.if_icmp .ne 11, 0, 66)),
  (58, (.iload 6, 0, 0)),
  (60, (.i2b, 0, 0)),
  (61, (.istore 6, 0, 0)),
  (63, (.goto 14, 0, 77)),
  (66, (.iload_n 1, 0, 0)),
  (67, (.bipush 46, 0, 0)),
  (69, (.if_icmp .ne 8, 0, 77)),
  (72, (.iload 6, 0, 0)),
  (74, (.i2s, 0, 0)),
  (75, (.istore 6, 0, 0)),
  (77, (.aload_n 0, 0, 0)),
  (78, (.getfield 17, 0, 259)),
  (81, (.aload_n 0, 0, 0)),
  (82, (.getfield 20, 0, 260)),
  (85, (.iconst 1, 0, 0)),
  (86, (.isub, 0, 0)),
  (87, (.iload 6, 0, 0)),
  (89, (.iastore, 0, 0)),
  (90, (.iconst 0, 0, 0)),
  (91, (.ireturn, 0, 0))], [])
/-- WasmCore$Memory.read(II)I -/
def M_43 : xM := ("WasmCore$Memory", ⟨"WasmCore$Memory", "read", "(II)I"⟩, prog_5_method_4_code, 5, (some .int), [
  (0, (.iconst 0, 0, 0)),
  (1, (.istore_n 3, 0, 0)),
  (2, (.iload_n 2, 0, 0)),
  (3, (.iconst 1, 0, 0)),
  (4, (.isub, 0, 0)),
  (5, (.istore 4, 0, 0)),
  (7, (.iload 4, 0, 0)),
  (9, (.ifCond .lt 28, 0, 37)),
  (12, (.iload_n 3, 0, 0)),
  (13, (.bipush 8, 0, 0)),
  (15, (.ishl, 0, 0)),
  (16, (.aload_n 0, 0, 0)),
  (17, (.getfield 9, 0, 192)),
  (20, (.iload_n 1, 0, 0)),
  (21, (.iload 4, 0, 0)),
  (23, (.iadd, 0, 0)),
  (24, (.baload, 0, 0)),
  (25, (.sipush 255, 0, 0)),
  (28, (.iand, 0, 0)),
  (29, (.ior, 0, 0)),
  (30, (.istore_n 3, 0, 0)),
  (31, (.iinc 4 (-1), 0, 0)),
  (34, (.goto (-27), 0, 7)),
  (37, (.iload_n 3, 0, 0)),
  (38, (.ireturn, 0, 0))], [])
/-- WasmCore$Machine.calculate(I)I -/
def M_44 : xM := ("WasmCore$Machine", ⟨"WasmCore$Machine", "calculate", "(I)I"⟩, prog_4_method_22_code, 5, (some .int), [
  (0, (.aload_n 0, 0, 0)),
  (1, (.getfield 17, 0, 259)),
  (4, (.aload_n 0, 0, 0)),
  (5, (.getfield 20, 0, 260)),
  (8, (.iconst 1, 0, 0)),
  (9, (.isub, 0, 0)),
  (10, (.iaload, 0, 0)),
  (11, (.istore_n 2, 0, 0)),
  (12, (.iload_n 1, 0, 0)),
  (13, (.invokestatic 186, 0, 721)),
  (16, (.ifCond .eq 21, 0, 37)),
  (19, (.aload_n 0, 0, 0)),
  (20, (.getfield 17, 0, 259)),
  (23, (.aload_n 0, 0, 0)),
  (24, (.getfield 20, 0, 260)),
  (27, (.iconst 1, 0, 0)),
  (28, (.isub, 0, 0)),
  (29, (.iload_n 1, 0, 0)),
  (30, (.iload_n 2, 0, 0)),
  (31, (.invokestatic 190, 0, 738)),
  (34, (.iastore, 0, 0)),
  (35, (.iconst 0, 0, 0)),
  (36, (.ireturn, 0, 0)),
  (37, (.aload_n 0, 0, 0)),
  (38, (.getfield 17, 0, 259)),
  (41, (.aload_n 0, 0, 0)),
  (42, (.getfield 20, 0, 260)),
  (45, (.iconst 2, 0, 0)),
  (46, (.isub, 0, 0)),
  (47, (.iaload, 0, 0)),
  (48, (.istore_n 3, 0, 0)),
  (49, (.iload_n 1, 0, 0)),
  (50, (.invokestatic 195, 0, 801)),
  (53, (.ifCond .eq 11, 0, 64)),
  (56, (.aload_n 0, 0, 0)),
  (57, (.iload_n 1, 0, 0)),
  (58, (.iload_n 3, 0, 0)),
  (59, (.iload_n 2, 0, 0)),
  (60, (.invokevirtual 198, 0, 64820)),
  (63, (.ireturn, 0, 0)),
  (64, (.iload_n 1, 0, 0)),
  (65, (.bipush 79, 0, 0)),
  (67, (.if_icmp .gt 7, 0, 74)),
  (70, (.iconst 1, 0, 0)),
  (71, (.goto 4, 0, 75)),
  (74, (.iconst 0, 0, 0)),
  (75, (.istore 4, 0, 0)),
  (77, (.aload_n 0, 0, 0)),
  (78, (.iload 4, 0, 0)),
  (80, (.ifCond .eq 12, 0, 92)),
  (83, (.iload_n 1, 0, 0)),
  (84, (.iload_n 3, 0, 0)),
  (85, (.iload_n 2, 0, 0)),
  (86, (.invokestatic 202, 0, 867)),
  (89, (.goto 9, 0, 98)),
  (92, (.iload_n 1, 0, 0)),
  (93, (.iload_n 3, 0, 0)),
  (94, (.iload_n 2, 0, 0)),
  (95, (.invokestatic 205, 0, 899)),
  (98, (.invokevirtual 208, 0, 64850)),
  (101, (.ireturn, 0, 0))], [])
/-- WasmCore$Op.isUnary(I)Z -/
def M_45 : xM := ("WasmCore$Op", ⟨"WasmCore$Op", "isUnary", "(I)Z"⟩, prog_7_method_4_code, 1, (some .boolean), [
  (0, (.iload_n 0, 0, 0)),
  (1, (.bipush 69, 0, 0)),
  (3, (.if_icmp .eq 21, 0, 24)),
  (6, (.iload_n 0, 0, 0)),
  (7, (.bipush 103, 0, 0)),
  (9, (.if_icmp .eq 15, 0, 24)),
  (12, (.iload_n 0, 0, 0)),
  (13, (.bipush 104, 0, 0)),
  (15, (.if_icmp .eq 9, 0, 24)),
  (18, (.iload_n 0, 0, 0)),
  (19, (.bipush 105, 0, 0)),
  (21, (.if_icmp .ne 7, 0, 28)),
  (24, (.iconst 1, 0, 0)),
  (25, (.goto 4, 0, 29)),
  (28, (.iconst 0, 0, 0)),
  (29, (.ireturn, 0, 1))], [])
/-- WasmCore$Numbers.ofOne(II)I -/
def M_46 : xM := ("WasmCore$Numbers", ⟨"WasmCore$Numbers", "ofOne", "(II)I"⟩, prog_6_method_2_code, 2, (some .int), [
  (0, (.iload_n 0, 0, 0)),
  (1, (.tableswitch 42 103 105 #[27, 32, 37], 27, 0)),
  (28, (.iload_n 1, 0, 0)),
  (29, (.invokestatic 7, 0, 753)),
  (32, (.ireturn, 0, 0)),
  (33, (.iload_n 1, 0, 0)),
  (34, (.invokestatic 13, 0, 769)),
  (37, (.ireturn, 0, 0)),
  (38, (.iload_n 1, 0, 0)),
  (39, (.invokestatic 16, 0, 785)),
  (42, (.ireturn, 0, 0)),
  (43, (.iload_n 1, 0, 0)),
  (44, (.ifCond .ne 7, 0, 51)),
  (47, (.iconst 1, 0, 0)),
  (48, (.goto 4, 0, 52)),
  (51, (.iconst 0, 0, 0)),
  (52, (.ireturn, 0, 0))], [])
/-- java/lang/Integer.numberOfLeadingZeros(I)I -/
def M_47 : xM := ("java/lang/Integer", ⟨"java/lang/Integer", "numberOfLeadingZeros", "(I)I"⟩, prog_14_method_47_code, 2, (some .int), [
  (0, (.iload_n 0, 0, 0)),
  (1, (.ifCond .gt 14, 0, 15)),
  (4, (.iload_n 0, 0, 0)),
  (5, (.ifCond .ne 8, 0, 13)),
  (8, (.bipush 32, 0, 0)),
  (10, (.goto 4, 0, 14)),
  (13, (.iconst 0, 0, 0)),
  (14, (.ireturn, 0, 0)),
  (15, (.bipush 31, 0, 0)),
  (17, (.istore_n 1, 0, 0)),
  (18, (.iload_n 0, 0, 0)),
  (19, (.ldc_w 264, 0, 65536)),
  (22, (.if_icmp .lt 11, 0, 33)),
  (25, (.iinc 1 (-16), 0, 0)),
  (28, (.iload_n 0, 0, 0)),
  (29, (.bipush 16, 0, 0)),
  (31, (.iushr, 0, 0)),
  (32, (.istore_n 0, 0, 0)),
  (33, (.iload_n 0, 0, 0)),
  (34, (.sipush 256, 0, 0)),
  (37, (.if_icmp .lt 11, 0, 48)),
  (40, (.iinc 1 (-8), 0, 0)),
  (43, (.iload_n 0, 0, 0)),
  (44, (.bipush 8, 0, 0)),
  (46, (.iushr, 0, 0)),
  (47, (.istore_n 0, 0, 0)),
  (48, (.iload_n 0, 0, 0)),
  (49, (.bipush 16, 0, 0)),
  (51, (.if_icmp .lt 10, 0, 61)),
  (54, (.iinc 1 (-4), 0, 0)),
  (57, (.iload_n 0, 0, 0)),
  (58, (.iconst 4, 0, 0)),
  (59, (.iushr, 0, 0)),
  (60, (.istore_n 0, 0, 0)),
  (61, (.iload_n 0, 0, 0)),
  (62, (.iconst 4, 0, 0)),
  (63, (.if_icmp .lt 10, 0, 73)),
  (66, (.iinc 1 (-2), 0, 0)),
  (69, (.iload_n 0, 0, 0)),
  (70, (.iconst 2, 0, 0)),
  (71, (.iushr, 0, 0)),
  (72, (.istore_n 0, 0, 0)),
  (73, (.iload_n 1, 0, 0)),
  (74, (.iload_n 0, 0, 0)),
  (75, (.iconst 1, 0, 0)),
  (76, (.iushr, 0, 0)),
  (77, (.isub, 0, 0)),
  (78, (.ireturn, 0, 0))], [])
/-- java/lang/Integer.numberOfTrailingZeros(I)I -/
def M_48 : xM := ("java/lang/Integer", ⟨"java/lang/Integer", "numberOfTrailingZeros", "(I)I"⟩, prog_14_method_48_code, 2, (some .int), [
  (0, (.iload_n 0, 0, 0)),
  (1, (.iconst (-1), 0, 0)),
  (2, (.ixor, 0, 0)),
  (3, (.iload_n 0, 0, 0)),
  (4, (.iconst 1, 0, 0)),
  (5, (.isub, 0, 0)),
  (6, (.iand, 0, 0)),
  (7, (.istore_n 0, 0, 0)),
  (8, (.iload_n 0, 0, 0)),
  (9, (.ifCond .gt 8, 0, 17)),
  (12, (.iload_n 0, 0, 0)),
  (13, (.bipush 32, 0, 0)),
  (15, (.iand, 0, 0)),
  (16, (.ireturn, 0, 0)),
  (17, (.iconst 1, 0, 0)),
  (18, (.istore_n 1, 0, 0)),
  (19, (.iload_n 0, 0, 0)),
  (20, (.ldc_w 264, 0, 65536)),
  (23, (.if_icmp .le 11, 0, 34)),
  (26, (.iinc 1 16, 0, 0)),
  (29, (.iload_n 0, 0, 0)),
  (30, (.bipush 16, 0, 0)),
  (32, (.iushr, 0, 0)),
  (33, (.istore_n 0, 0, 0)),
  (34, (.iload_n 0, 0, 0)),
  (35, (.sipush 256, 0, 0)),
  (38, (.if_icmp .le 11, 0, 49)),
  (41, (.iinc 1 8, 0, 0)),
  (44, (.iload_n 0, 0, 0)),
  (45, (.bipush 8, 0, 0)),
  (47, (.iushr, 0, 0)),
  (48, (.istore_n 0, 0, 0)),
  (49, (.iload_n 0, 0, 0)),
  (50, (.bipush 16, 0, 0)),
  (52, (.if_icmp .le 10, 0, 62)),
  (55, (.iinc 1 4, 0, 0)),
  (58, (.iload_n 0, 0, 0)),
  (59, (.iconst 4, 0, 0)),
  (60, (.iushr, 0, 0)),
  (61, (.istore_n 0, 0, 0)),
  (62, (.iload_n 0, 0, 0)),
  (63, (.iconst 4, 0, 0)),
  (64, (.if_icmp .le 10, 0, 74)),
  (67, (.iinc 1 2, 0, 0)),
  (70, (.iload_n 0, 0, 0)),
  (71, (.iconst 2, 0, 0)),
  (72, (.iushr, 0, 0)),
  (73, (.istore_n 0, 0, 0)),
  (74, (.iload_n 1, 0, 0)),
  (75, (.iload_n 0, 0, 0)),
  (76, (.iconst 1, 0, 0)),
  (77, (.iushr, 0, 0)),
  (78, (.iadd, 0, 0)),
  (79, (.ireturn, 0, 0))], [])
/-- java/lang/Integer.bitCount(I)I -/
def M_49 : xM := ("java/lang/Integer", ⟨"java/lang/Integer", "bitCount", "(I)I"⟩, prog_14_method_49_code, 1, (some .int), [
  (0, (.iload_n 0, 0, 0)),
  (1, (.iload_n 0, 0, 0)),
  (2, (.iconst 1, 0, 0)),
  (3, (.iushr, 0, 0)),
  (4, (.ldc_w 265, 0, 1431655765)),
  (7, (.iand, 0, 0)),
  (8, (.isub, 0, 0)),
  (9, (.istore_n 0, 0, 0)),
  (10, (.iload_n 0, 0, 0)),
  (11, (.ldc_w 266, 0, 858993459)),
  (14, (.iand, 0, 0)),
  (15, (.iload_n 0, 0, 0)),
  (16, (.iconst 2, 0, 0)),
  (17, (.iushr, 0, 0)),
  (18, (.ldc_w 266, 0, 858993459)),
  (21, (.iand, 0, 0)),
  (22, (.iadd, 0, 0)),
  (23, (.istore_n 0, 0, 0)),
  (24, (.iload_n 0, 0, 0)),
  (25, (.iload_n 0, 0, 0)),
  (26, (.iconst 4, 0, 0)),
  (27, (.iushr, 0, 0)),
  (28, (.iadd, 0, 0)),
  (29, (.ldc_w 267, 0, 252645135)),
  (32, (.iand, 0, 0)),
  (33, (.istore_n 0, 0, 0)),
  (34, (.iload_n 0, 0, 0)),
  (35, (.iload_n 0, 0, 0)),
  (36, (.bipush 8, 0, 0)),
  (38, (.iushr, 0, 0)),
  (39, (.iadd, 0, 0)),
  (40, (.istore_n 0, 0, 0)),
  (41, (.iload_n 0, 0, 0)),
  (42, (.iload_n 0, 0, 0)),
  (43, (.bipush 16, 0, 0)),
  (45, (.iushr, 0, 0)),
  (46, (.iadd, 0, 0)),
  (47, (.istore_n 0, 0, 0)),
  (48, (.iload_n 0, 0, 0)),
  (49, (.bipush 63, 0, 0)),
  (51, (.iand, 0, 0)),
  (52, (.ireturn, 0, 0))], [])
/-- WasmCore$Op.isDivision(I)Z -/
def M_50 : xM := ("WasmCore$Op", ⟨"WasmCore$Op", "isDivision", "(I)Z"⟩, prog_7_method_5_code, 1, (some .boolean), [
  (0, (.iload_n 0, 0, 0)),
  (1, (.bipush 109, 0, 0)),
  (3, (.if_icmp .lt 13, 0, 16)),
  (6, (.iload_n 0, 0, 0)),
  (7, (.bipush 112, 0, 0)),
  (9, (.if_icmp .gt 7, 0, 16)),
  (12, (.iconst 1, 0, 0)),
  (13, (.goto 4, 0, 17)),
  (16, (.iconst 0, 0, 0)),
  (17, (.ireturn, 0, 1))], [])
/-- WasmCore$Machine.divide(III)I -/
def M_51 : xM := ("WasmCore$Machine", ⟨"WasmCore$Machine", "divide", "(III)I"⟩, prog_4_method_23_code, 4, (some .int), [
  (0, (.iload_n 3, 0, 0)),
  (1, (.ifCond .ne 5, 0, 6)),
  (4, (.iconst 2, 0, 0)),
  (5, (.ireturn, 0, 0)),
  (6, (.iload_n 1, 0, 0)),
  (7, (.bipush 109, 0, 0)),
  (9, (.if_icmp .ne 16, 0, 25)),
  (12, (.iload_n 2, 0, 0)),
  (13, (.ldc 211, 0, 2147483648)),
  (15, (.if_icmp .ne 10, 0, 25)),
  (18, (.iload_n 3, 0, 0)),
  (19, (.iconst (-1), 0, 0)),
  (20, (.if_icmp .ne 5, 0, 25)),
  (23, (.iconst 3, 0, 0)),
  (24, (.ireturn, 0, 0)),
  (25, (.aload_n 0, 0, 0)),
  (26, (.iload_n 1, 0, 0)),
  (27, (.iload_n 2, 0, 0)),
  (28, (.iload_n 3, 0, 0)),
  (29, (.invokestatic 212, 0, 835)),
  (32, (.invokevirtual 208, 0, 64850)),
  (35, (.ireturn, 0, 0))], [])
/-- WasmCore$Numbers.divided(III)I -/
def M_52 : xM := ("WasmCore$Numbers", ⟨"WasmCore$Numbers", "divided", "(III)I"⟩, prog_6_method_6_code, 3, (some .int), [
  (0, (.iload_n 2, 0, 0)),
  (1, (.ifCond .ne 5, 0, 6)),
  (4, (.iconst 0, 0, 0)),
  (5, (.ireturn, 0, 0)),
  (6, (.iload_n 0, 0, 0)),
  (7, (.tableswitch 44 109 111 #[25, 33, 29], 25, 0)),
  (32, (.iload_n 1, 0, 0)),
  (33, (.iload_n 2, 0, 0)),
  (34, (.idiv, 0, 0)),
  (35, (.ireturn, 0, 0)),
  (36, (.iload_n 1, 0, 0)),
  (37, (.iload_n 2, 0, 0)),
  (38, (.irem, 0, 0)),
  (39, (.ireturn, 0, 0)),
  (40, (.iload_n 1, 0, 0)),
  (41, (.invokestatic 29, 0, 625)),
  (44, (.iload_n 2, 0, 0)),
  (45, (.invokestatic 29, 0, 625)),
  (48, (.ldiv, 0, 0)),
  (49, (.l2i, 0, 0)),
  (50, (.ireturn, 0, 0)),
  (51, (.iload_n 1, 0, 0)),
  (52, (.invokestatic 29, 0, 625)),
  (55, (.iload_n 2, 0, 0)),
  (56, (.invokestatic 29, 0, 625)),
  (59, (.lrem, 0, 0)),
  (60, (.l2i, 0, 0)),
  (61, (.ireturn, 0, 0))], [])
/-- WasmCore$Machine.replaceTwo(I)I -/
def M_53 : xM := ("WasmCore$Machine", ⟨"WasmCore$Machine", "replaceTwo", "(I)I"⟩, prog_4_method_24_code, 2, (some .int), [
  (0, (.aload_n 0, 0, 0)),
  (1, (.dup, 0, 0)),
  (2, (.getfield 20, 0, 260)),
  (5, (.iconst 1, 0, 0)),
  (6, (.isub, 0, 0)),
  (7, (.putfield 20, 0, 260)),
  (10, (.aload_n 0, 0, 0)),
  (11, (.getfield 17, 0, 259)),
  (14, (.aload_n 0, 0, 0)),
  (15, (.getfield 20, 0, 260)),
  (18, (.iconst 1, 0, 0)),
  (19, (.isub, 0, 0)),
  (20, (.iload_n 1, 0, 0)),
  (21, (.iastore, 0, 0)),
  (22, (.iconst 0, 0, 0)),
  (23, (.ireturn, 0, 0))], [])
/-- WasmCore$Numbers.compared(III)I -/
def M_54 : xM := ("WasmCore$Numbers", ⟨"WasmCore$Numbers", "compared", "(III)I"⟩, prog_6_method_3_code, 3, (some .int), [
  (0, (.iload_n 0, 0, 0)),
  (1, (.iload_n 1, 0, 0)),
  (2, (.iload_n 2, 0, 0)),
  (3, (.invokestatic 19, 0, 883)),
  (6, (.ifCond .eq 7, 0, 13)),
  (9, (.iconst 1, 0, 0)),
  (10, (.goto 4, 0, 14)),
  (13, (.iconst 0, 0, 0)),
  (14, (.ireturn, 0, 0))], [])
/-- WasmCore$Numbers.isTrue(III)Z -/
def M_55 : xM := ("WasmCore$Numbers", ⟨"WasmCore$Numbers", "isTrue", "(III)Z"⟩, prog_6_method_4_code, 3, (some .boolean), [
  (0, (.iload_n 0, 0, 0)),
  (1, (.tableswitch 159 70 78 #[51, 62, 73, 84, 98, 109, 123, 134, 148], 51, 0)),
  (52, (.iload_n 1, 0, 0)),
  (53, (.iload_n 2, 0, 0)),
  (54, (.if_icmp .ne 7, 0, 61)),
  (57, (.iconst 1, 0, 0)),
  (58, (.goto 4, 0, 62)),
  (61, (.iconst 0, 0, 0)),
  (62, (.ireturn, 0, 1)),
  (63, (.iload_n 1, 0, 0)),
  (64, (.iload_n 2, 0, 0)),
  (65, (.if_icmp .eq 7, 0, 72)),
  (68, (.iconst 1, 0, 0)),
  (69, (.goto 4, 0, 73)),
  (72, (.iconst 0, 0, 0)),
  (73, (.ireturn, 0, 1)),
  (74, (.iload_n 1, 0, 0)),
  (75, (.iload_n 2, 0, 0)),
  (76, (.if_icmp .ge 7, 0, 83)),
  (79, (.iconst 1, 0, 0)),
  (80, (.goto 4, 0, 84)),
  (83, (.iconst 0, 0, 0)),
  (84, (.ireturn, 0, 1)),
  (85, (.iload_n 1, 0, 0)),
  (86, (.iload_n 2, 0, 0)),
  (87, (.invokestatic 25, 0, 402)),
  (90, (.ifCond .ge 7, 0, 97)),
  (93, (.iconst 1, 0, 0)),
  (94, (.goto 4, 0, 98)),
  (97, (.iconst 0, 0, 0)),
  (98, (.ireturn, 0, 1)),
  (99, (.iload_n 1, 0, 0)),
  (100, (.iload_n 2, 0, 0)),
  (101, (.if_icmp .le 7, 0, 108)),
  (104, (.iconst 1, 0, 0)),
  (105, (.goto 4, 0, 109)),
  (108, (.iconst 0, 0, 0)),
  (109, (.ireturn, 0, 1)),
  (110, (.iload_n 1, 0, 0)),
  (111, (.iload_n 2, 0, 0)),
  (112, (.invokestatic 25, 0, 402)),
  (115, (.ifCond .le 7, 0, 122)),
  (118, (.iconst 1, 0, 0)),
  (119, (.goto 4, 0, 123)),
  (122, (.iconst 0, 0, 0)),
  (123, (.ireturn, 0, 1)),
  (124, (.iload_n 1, 0, 0)),
  (125, (.iload_n 2, 0, 0)),
  (126, (.if_icmp .gt 7, 0, 133)),
  (129, (.iconst 1, 0, 0)),
  (130, (.goto 4, 0, 134)),
  (133, (.iconst 0, 0, 0)),
  (134, (.ireturn, 0, 1)),
  (135, (.iload_n 1, 0, 0)),
  (136, (.iload_n 2, 0, 0)),
  (137, (.invokestatic 25, 0, 402)),
  (140, (.ifCond .gt 7, 0, 147)),
  (143, (.iconst 1, 0, 0)),
  (144, (.goto 4, 0, 148)),
  (147, (.iconst 0, 0, 0)),
  (148, (.ireturn, 0, 1)),
  (149, (.iload_n 1, 0, 0)),
  (150, (.iload_n 2, 0, 0)),
  (151, (.if_icmp .lt 7, 0, 158)),
  (154, (.iconst 1, 0, 0)),
  (155, (.goto 4, 0, 159)),
  (158, (.iconst 0, 0, 0)),
  (159, (.ireturn, 0, 1)),
  (160, (.iload_n 1, 0, 0)),
  (161, (.iload_n 2, 0, 0)),
  (162, (.invokestatic 25, 0, 402)),
  (165, (.ifCond .lt 7, 0, 172)),
  (168, (.iconst 1, 0, 0)),
  (169, (.goto 4, 0, 173)),
  (172, (.iconst 0, 0, 0)),
  (173, (.ireturn, 0, 1))], [])
/-- WasmCore$Numbers.ofTwo(III)I -/
def M_56 : xM := ("WasmCore$Numbers", ⟨"WasmCore$Numbers", "ofTwo", "(III)I"⟩, prog_6_method_5_code, 3, (some .int), [
  (0, (.iload_n 0, 0, 0)),
  (1, (.tableswitch 116 106 119 #[71, 75, 79, 116, 116, 116, 116, 83, 87, 91, 95, 99, 103, 107], 71, 0)),
  (72, (.iload_n 1, 0, 0)),
  (73, (.iload_n 2, 0, 0)),
  (74, (.iadd, 0, 0)),
  (75, (.ireturn, 0, 0)),
  (76, (.iload_n 1, 0, 0)),
  (77, (.iload_n 2, 0, 0)),
  (78, (.isub, 0, 0)),
  (79, (.ireturn, 0, 0)),
  (80, (.iload_n 1, 0, 0)),
  (81, (.iload_n 2, 0, 0)),
  (82, (.imul, 0, 0)),
  (83, (.ireturn, 0, 0)),
  (84, (.iload_n 1, 0, 0)),
  (85, (.iload_n 2, 0, 0)),
  (86, (.iand, 0, 0)),
  (87, (.ireturn, 0, 0)),
  (88, (.iload_n 1, 0, 0)),
  (89, (.iload_n 2, 0, 0)),
  (90, (.ior, 0, 0)),
  (91, (.ireturn, 0, 0)),
  (92, (.iload_n 1, 0, 0)),
  (93, (.iload_n 2, 0, 0)),
  (94, (.ixor, 0, 0)),
  (95, (.ireturn, 0, 0)),
  (96, (.iload_n 1, 0, 0)),
  (97, (.iload_n 2, 0, 0)),
  (98, (.ishl, 0, 0)),
  (99, (.ireturn, 0, 0)),
  (100, (.iload_n 1, 0, 0)),
  (101, (.iload_n 2, 0, 0)),
  (102, (.ishr, 0, 0)),
  (103, (.ireturn, 0, 0)),
  (104, (.iload_n 1, 0, 0)),
  (105, (.iload_n 2, 0, 0)),
  (106, (.iushr, 0, 0)),
  (107, (.ireturn, 0, 0)),
  (108, (.iload_n 1, 0, 0)),
  (109, (.iload_n 2, 0, 0)),
  (110, (.ishl, 0, 0)),
  (111, (.iload_n 1, 0, 0)),
  (112, (.iload_n 2, 0, 0)),
  (113, (.ineg, 0, 0)),
  (114, (.iushr, 0, 0)),
  (115, (.ior, 0, 0)),
  (116, (.ireturn, 0, 0)),
  (117, (.iload_n 1, 0, 0)),
  (118, (.iload_n 2, 0, 0)),
  (119, (.iushr, 0, 0)),
  (120, (.iload_n 1, 0, 0)),
  (121, (.iload_n 2, 0, 0)),
  (122, (.ineg, 0, 0)),
  (123, (.ishl, 0, 0)),
  (124, (.ior, 0, 0)),
  (125, (.ireturn, 0, 0))], [])
/-- WasmCore.heed(I)V -/
def M_57 : xM := ("WasmCore", ⟨"WasmCore", "heed", "(I)V"⟩, prog_1_method_18_code, 2, none, [
  (0, (.iload_n 1, 0, 0)),
  (1, (.iconst (-1), 0, 0)),
  (2, (.if_icmp .ne 11, 0, 13)),
  (5, (.aload_n 0, 0, 0)),
  (6, (.iconst 3, 0, 0)),
  (7, (.putfield 49, 0, 6)),
  (10, (.goto 17, 0, 27)),
  (13, (.iload_n 1, 0, 0)),
  (14, (.ifCond .eq 13, 0, 27)),
  (17, (.aload_n 0, 0, 0)),
  (18, (.iconst 4, 0, 0)),
  (19, (.putfield 49, 0, 6)),
  (22, (.aload_n 0, 0, 0)),
  (23, (.iload_n 1, 0, 0)),
  (24, (.putfield 52, 0, 7)),
  (27, (.return_, 0, 0))], [])
/-- WasmCore.stop()Z -/
def M_58 : xM := ("WasmCore", ⟨"WasmCore", "stop", "()Z"⟩, prog_1_method_11_code, 1, (some .boolean), [
  (0, (.aload_n 0, 0, 0)),
  (1, (.getfield 49, 0, 6)),
  (4, (.iconst 2, 0, 0)),
  (5, (.if_icmp .eq 5, 0, 10)),
  (8, (.iconst 0, 0, 0)),
  (9, (.ireturn, 0, 1)),
  (10, (.aload_n 0, 0, 0)),
  (11, (.iconst 1, 0, 0)),
  (12, (.putfield 49, 0, 6)),
  (15, (.iconst 1, 0, 0)),
  (16, (.ireturn, 0, 1))], [])
/-- WasmCore.look(I)I -/
def M_59 : xM := ("WasmCore", ⟨"WasmCore", "look", "(I)I"⟩, prog_1_method_13_code, 3, (some .int), [
  (0, (.aload_n 0, 0, 0)),
  (1, (.getfield 49, 0, 6)),
  (4, (.iconst 2, 0, 0)),
  (5, (.if_icmp .ne 7, 0, 12)),
  (8, (.iconst 1, 0, 0)),
  (9, (.goto 4, 0, 13)),
  (12, (.iconst 0, 0, 0)),
  (13, (.istore_n 2, 0, 0)),
  (14, (.iload_n 1, 0, 0)),
  (15, (.tableswitch 127 0 6 #[41, 46, 63, 79, 95, 111, 119], 41, 0)),
  (56, (.aload_n 0, 0, 0)),
  (57, (.getfield 49, 0, 6)),
  (60, (.ireturn, 0, 0)),
  (61, (.aload_n 0, 0, 0)),
  (62, (.getfield 49, 0, 6)),
  (65, (.iconst 4, 0, 0)),
  (66, (.if_icmp .ne 10, 0, 76)),
  (69, (.aload_n 0, 0, 0)),
  (70, (.getfield 52, 0, 7)),
  (73, (.goto 4, 0, 77)),
  (76, (.iconst 0, 0, 0)),
  (77, (.ireturn, 0, 0)),
  (78, (.iload_n 2, 0, 0)),
  (79, (.ifCond .eq 13, 0, 92)),
  (82, (.aload_n 0, 0, 0)),
  (83, (.getfield 37, 0, 3)),
  (86, (.getfield 157, 0, 261)),
  (89, (.goto 4, 0, 93)),
  (92, (.iconst (-1), 0, 0)),
  (93, (.ireturn, 0, 0)),
  (94, (.iload_n 2, 0, 0)),
  (95, (.ifCond .eq 13, 0, 108)),
  (98, (.aload_n 0, 0, 0)),
  (99, (.getfield 37, 0, 3)),
  (102, (.getfield 160, 0, 260)),
  (105, (.goto 4, 0, 109)),
  (108, (.iconst 0, 0, 0)),
  (109, (.ireturn, 0, 0)),
  (110, (.iload_n 2, 0, 0)),
  (111, (.ifCond .eq 13, 0, 124)),
  (114, (.aload_n 0, 0, 0)),
  (115, (.getfield 37, 0, 3)),
  (118, (.getfield 163, 0, 263)),
  (121, (.goto 4, 0, 125)),
  (124, (.iconst 0, 0, 0)),
  (125, (.ireturn, 0, 0)),
  (126, (.aload_n 0, 0, 0)),
  (127, (.getfield 19, 0, 2)),
  (130, (.getfield 166, 0, 193)),
  (133, (.ireturn, 0, 0)),
  (134, (.aload_n 0, 0, 0)),
  (135, (.getfield 13, 0, 0)),
  (138, (.getfield 81, 0, 65)),
  (141, (.ireturn, 0, 0)),
  (142, (.iconst (-1), 0, 0)),
  (143, (.ireturn, 0, 0))], [])
/-- WasmCore.peek(I)I -/
def M_60 : xM := ("WasmCore", ⟨"WasmCore", "peek", "(I)I"⟩, prog_1_method_15_code, 2, (some .int), [
  (0, (.aload_n 0, 0, 0)),
  (1, (.getfield 19, 0, 2)),
  (4, (.iload_n 1, 0, 0)),
  (5, (.i2l, 0, 0)),
  (6, (.iconst 1, 0, 0)),
  (7, (.invokevirtual 184, 0, 48643)),
  (10, (.ifCond .eq 15, 0, 25)),
  (13, (.aload_n 0, 0, 0)),
  (14, (.getfield 19, 0, 2)),
  (17, (.iload_n 1, 0, 0)),
  (18, (.iconst 1, 0, 0)),
  (19, (.invokevirtual 188, 0, 48691)),
  (22, (.goto 4, 0, 26)),
  (25, (.iconst (-1), 0, 0)),
  (26, (.ireturn, 0, 0))], [])
/-- WasmCore.poke(II)Z -/
def M_61 : xM := ("WasmCore", ⟨"WasmCore", "poke", "(II)Z"⟩, prog_1_method_16_code, 3, (some .boolean), [
  (0, (.aload_n 0, 0, 0)),
  (1, (.getfield 49, 0, 6)),
  (4, (.iconst 2, 0, 0)),
  (5, (.if_icmp .eq 16, 0, 21)),
  (8, (.aload_n 0, 0, 0)),
  (9, (.getfield 19, 0, 2)),
  (12, (.iload_n 1, 0, 0)),
  (13, (.i2l, 0, 0)),
  (14, (.iconst 1, 0, 0)),
  (15, (.invokevirtual 184, 0, 48643)),
  (18, (.ifCond .ne 5, 0, 23)),
  (21, (.iconst 0, 0, 0)),
  (22, (.ireturn, 0, 1)),
  (23, (.aload_n 0, 0, 0)),
  (24, (.getfield 19, 0, 2)),
  (27, (.iload_n 1, 0, 0)),
  (28, (.iload_n 2, 0, 0)),
  (29, (.iconst 1, 0, 0)),
  (30, (.invokevirtual 192, 0, 48660)),
  (33, (.iconst 1, 0, 0)),
  (34, (.ireturn, 0, 1))], [])
/-- WasmCoreLaw.feed(LWasmCore;IJ[J)I -/
def M_62 : xM := ("WasmCoreLaw", ⟨"WasmCoreLaw", "feed", "(LWasmCore;IJ[J)I"⟩, method_3_code, 6, (some .int), [
  (0, (.aload 4, 0, 0)),
  (2, (.iconst 0, 0, 0)),
  (3, (.aload_n 0, 0, 0)),
  (4, (.iload_n 1, 0, 0)),
  (5, (.lload_n 2, 0, 0)),
  (6, (.invokevirtual 7, 0, 1011)),
  (9, (.i2l, 0, 0)),
  (10, (.lastore, 0, 0)),
  (11, (.goto 11, 0, 22)),
  (14, (.astore 5, 0, 0)),
  (16, (.iconst 1, 0, 0)),
  (17, (.ireturn, 0, 0)),
  (18, (.astore 5, 0, 0)),
  (20, (.iconst 2, 0, 0)),
  (21, (.ireturn, 0, 0)),
  (22, (.iconst 0, 0, 0)),
  (23, (.ireturn, 0, 0))], [(0, 11, 14, 13, 0), (0, 11, 18, 15, 1)])
/-- WasmCore.feed(IJ)I -/
def M_63 : xM := ("WasmCore", ⟨"WasmCore", "feed", "(IJ)I"⟩, prog_1_method_2_code, 5, (some .int), [
  (0, (.iload_n 1, 0, 0)),
  (1, (.iconst 1, 0, 0)),
  (2, (.if_icmp .lt 9, 0, 11)),
  (5, (.iload_n 1, 0, 0)),
  (6, (.bipush 8, 0, 0)),
  (8, (.if_icmp .le 13, 0, 21)),
  (11, (.new 61, 0, 100)),
  (14, (.dup, 0, 0)),
  (21, (.aload_n 0, 0, 0)),
  (22, (.getfield 49, 0, 6)),
  (25, (.ifCond .ne 14, 0, 39)),
  (28, (.aload_n 0, 0, 0)),
  (29, (.getfield 13, 0, 0)),
  (32, (.iload_n 1, 0, 0)),
  (33, (.invokevirtual 68, 0, 17026)),
  (36, (.ifCond .ne 13, 0, 49)),
  (39, (.new 72, 0, 101)),
  (42, (.dup, 0, 0)),
  (49, (.iload_n 1, 0, 0)),
  (50, (.iconst 1, 0, 0)),
  (51, (.isub, 0, 0)),
  (52, (.istore 4, 0, 0)),
  (54, (.iload 4, 0, 0)),
  (56, (.ifCond .lt 28, 0, 84)),
  (59, (.aload_n 0, 0, 0)),
  (60, (.getfield 13, 0, 0)),
  (63, (.lload_n 2, 0, 0)),
  (64, (.bipush 8, 0, 0)),
  (66, (.iload 4, 0, 0)),
  (68, (.imul, 0, 0)),
  (69, (.lushr, 0, 0)),
  (70, (.l2i, 0, 0)),
  (71, (.sipush 255, 0, 0)),
  (74, (.iand, 0, 0)),
  (75, (.invokevirtual 77, 0, 17042)),
  (78, (.iinc 4 (-1), 0, 0)),
  (81, (.goto (-27), 0, 54)),
  (84, (.aload_n 0, 0, 0)),
  (85, (.getfield 13, 0, 0)),
  (88, (.getfield 81, 0, 65)),
  (91, (.ireturn, 0, 0))], [])
/-- WasmCore$Code.hasRoomFor(I)Z -/
def M_64 : xM := ("WasmCore$Code", ⟨"WasmCore$Code", "hasRoomFor", "(I)Z"⟩, prog_3_method_4_code, 2, (some .boolean), [
  (0, (.aload_n 0, 0, 0)),
  (1, (.getfield 13, 0, 65)),
  (4, (.iload_n 1, 0, 0)),
  (5, (.iadd, 0, 0)),
  (6, (.sipush 240, 0, 0)),
  (9, (.if_icmp .gt 7, 0, 16)),
  (12, (.iconst 1, 0, 0)),
  (13, (.goto 4, 0, 17)),
  (16, (.iconst 0, 0, 0)),
  (17, (.ireturn, 0, 1))], [])
/-- WasmCore$Code.append(I)V -/
def M_65 : xM := ("WasmCore$Code", ⟨"WasmCore$Code", "append", "(I)V"⟩, prog_3_method_5_code, 2, none, [
  (0, (.aload_n 0, 0, 0)),
  (1, (.getfield 9, 0, 64)),
  (4, (.aload_n 0, 0, 0)),
  (5, (.getfield 13, 0, 65)),
  (8, (.iload_n 1, 0, 0)),
  (9, (.iastore, 0, 0)),
  (10, (.aload_n 0, 0, 0)),
  (11, (.dup, 0, 0)),
  (12, (.getfield 13, 0, 65)),
  (15, (.iconst 1, 0, 0)),
  (16, (.iadd, 0, 0)),
  (17, (.putfield 13, 0, 65)),
  (20, (.return_, 0, 0))], [])
/-- WasmCoreLaw.word(LWasmCore;I[J)I -/
def M_66 : xM := ("WasmCoreLaw", ⟨"WasmCoreLaw", "word", "(LWasmCore;I[J)I"⟩, method_4_code, 4, (some .int), [
  (0, (.aload_n 2, 0, 0)),
  (1, (.iconst 0, 0, 0)),
  (2, (.aload_n 0, 0, 0)),
  (3, (.iload_n 1, 0, 0)),
  (4, (.invokevirtual 17, 0, 1074)),
  (7, (.i2l, 0, 0)),
  (8, (.lastore, 0, 0)),
  (9, (.goto 6, 0, 15)),
  (12, (.astore_n 3, 0, 0)),
  (13, (.iconst 1, 0, 0)),
  (14, (.ireturn, 0, 0)),
  (15, (.iconst 0, 0, 0)),
  (16, (.ireturn, 0, 0))], [(0, 9, 12, 15, 1)])
/-- WasmCore.word(I)I -/
def M_67 : xM := ("WasmCore", ⟨"WasmCore", "word", "(I)I"⟩, prog_1_method_3_code, 2, (some .int), [
  (0, (.aload_n 0, 0, 0)),
  (1, (.getfield 49, 0, 6)),
  (4, (.ifCond .ne 14, 0, 18)),
  (7, (.aload_n 0, 0, 0)),
  (8, (.getfield 13, 0, 0)),
  (11, (.iconst 1, 0, 0)),
  (12, (.invokevirtual 68, 0, 17026)),
  (15, (.ifCond .ne 13, 0, 28)),
  (18, (.new 72, 0, 101)),
  (21, (.dup, 0, 0)),
  (28, (.aload_n 0, 0, 0)),
  (29, (.getfield 13, 0, 0)),
  (32, (.iload_n 1, 0, 0)),
  (33, (.invokevirtual 77, 0, 17042)),
  (36, (.aload_n 0, 0, 0)),
  (37, (.getfield 13, 0, 0)),
  (40, (.getfield 81, 0, 65)),
  (43, (.ireturn, 0, 0))], [])
/-- WasmCoreLaw.declare(LWasmCore;III[J)I -/
def M_68 : xM := ("WasmCoreLaw", ⟨"WasmCoreLaw", "declare", "(LWasmCore;III[J)I"⟩, method_5_code, 6, (some .int), [
  (0, (.aload 4, 0, 0)),
  (2, (.iconst 0, 0, 0)),
  (3, (.aload_n 0, 0, 0)),
  (4, (.iload_n 1, 0, 0)),
  (5, (.iload_n 2, 0, 0)),
  (6, (.iload_n 3, 0, 0)),
  (7, (.invokevirtual 21, 0, 1108)),
  (10, (.i2l, 0, 0)),
  (11, (.lastore, 0, 0)),
  (12, (.goto 11, 0, 23)),
  (15, (.astore 5, 0, 0)),
  (17, (.iconst 1, 0, 0)),
  (18, (.ireturn, 0, 0)),
  (19, (.astore 5, 0, 0)),
  (21, (.iconst 2, 0, 0)),
  (22, (.ireturn, 0, 0)),
  (23, (.iconst 0, 0, 0)),
  (24, (.ireturn, 0, 0))], [(0, 12, 15, 13, 0), (0, 12, 19, 15, 1)])
/-- WasmCore.declare(III)I -/
def M_69 : xM := ("WasmCore", ⟨"WasmCore", "declare", "(III)I"⟩, prog_1_method_4_code, 4, (some .int), [
  (0, (.iload_n 1, 0, 0)),
  (1, (.iload_n 2, 0, 0)),
  (2, (.iload_n 3, 0, 0)),
  (3, (.invokestatic 86, 0, 1123)),
  (6, (.ifCond .ne 13, 0, 19)),
  (9, (.new 61, 0, 100)),
  (12, (.dup, 0, 0)),
  (19, (.aload_n 0, 0, 0)),
  (20, (.getfield 49, 0, 6)),
  (23, (.ifCond .ne 23, 0, 46)),
  (26, (.aload_n 0, 0, 0)),
  (27, (.getfield 13, 0, 0)),
  (30, (.invokevirtual 92, 0, 17137)),
  (33, (.ifCond .eq 13, 0, 46)),
  (36, (.aload_n 0, 0, 0)),
  (37, (.getfield 13, 0, 0)),
  (40, (.invokevirtual 96, 0, 17153)),
  (43, (.ifCond .ne 13, 0, 56)),
  (46, (.new 72, 0, 101)),
  (49, (.dup, 0, 0)),
  (56, (.aload_n 0, 0, 0)),
  (57, (.getfield 13, 0, 0)),
  (60, (.iload_n 1, 0, 0)),
  (61, (.iload_n 2, 0, 0)),
  (62, (.iload_n 3, 0, 0)),
  (63, (.invokevirtual 101, 0, 17172)),
  (66, (.ireturn, 0, 0))], [])
/-- WasmCore$Code.isSignature(III)Z -/
def M_70 : xM := ("WasmCore$Code", ⟨"WasmCore$Code", "isSignature", "(III)Z"⟩, prog_3_method_2_code, 3, (some .boolean), [
  (0, (.iload_n 0, 0, 0)),
  (1, (.ifCond .lt 30, 0, 31)),
  (4, (.iload_n 0, 0, 0)),
  (5, (.iconst 4, 0, 0)),
  (6, (.if_icmp .gt 25, 0, 31)),
  (9, (.iload_n 1, 0, 0)),
  (10, (.ifCond .lt 21, 0, 31)),
  (13, (.iload_n 1, 0, 0)),
  (14, (.iconst 4, 0, 0)),
  (15, (.if_icmp .gt 16, 0, 31)),
  (18, (.iload_n 2, 0, 0)),
  (19, (.ifCond .lt 12, 0, 31)),
  (22, (.iload_n 2, 0, 0)),
  (23, (.iconst 1, 0, 0)),
  (24, (.if_icmp .gt 7, 0, 31)),
  (27, (.iconst 1, 0, 0)),
  (28, (.goto 4, 0, 32)),
  (31, (.iconst 0, 0, 0)),
  (32, (.ireturn, 0, 1))], [])
/-- WasmCore$Code.hasRoomForFunction()Z -/
def M_71 : xM := ("WasmCore$Code", ⟨"WasmCore$Code", "hasRoomForFunction", "()Z"⟩, prog_3_method_6_code, 1, (some .boolean), [
  (0, (.aload_n 0, 0, 0)),
  (1, (.getfield 17, 0, 66)),
  (4, (.bipush 6, 0, 0)),
  (6, (.if_icmp .ge 7, 0, 13)),
  (9, (.iconst 1, 0, 0)),
  (10, (.goto 4, 0, 14)),
  (13, (.iconst 0, 0, 0)),
  (14, (.ireturn, 0, 1))], [])
/-- WasmCore$Code.hasLooseWords()Z -/
def M_72 : xM := ("WasmCore$Code", ⟨"WasmCore$Code", "hasLooseWords", "()Z"⟩, prog_3_method_7_code, 1, (some .boolean), [
  (0, (.aload_n 0, 0, 0)),
  (1, (.getfield 13, 0, 65)),
  (4, (.aload_n 0, 0, 0)),
  (5, (.aload_n 0, 0, 0)),
  (6, (.getfield 17, 0, 66)),
  (9, (.invokevirtual 44, 0, 16498)),
  (12, (.if_icmp .le 7, 0, 19)),
  (15, (.iconst 1, 0, 0)),
  (16, (.goto 4, 0, 20)),
  (19, (.iconst 0, 0, 0)),
  (20, (.ireturn, 0, 1))], [])
/-- WasmCore$Code.addFunction(III)I -/
def M_73 : xM := ("WasmCore$Code", ⟨"WasmCore$Code", "addFunction", "(III)I"⟩, prog_3_method_9_code, 5, (some .int), [
  (0, (.aload_n 0, 0, 0)),
  (1, (.getfield 17, 0, 66)),
  (4, (.istore 4, 0, 0)),
  (6, (.aload_n 0, 0, 0)),
  (7, (.getfield 20, 0, 67)),
  (10, (.iload 4, 0, 0)),
  (12, (.aload_n 0, 0, 0)),
  (13, (.getfield 13, 0, 65)),
  (16, (.iastore, 0, 0)),
  (17, (.aload_n 0, 0, 0)),
  (18, (.getfield 23, 0, 68)),
  (21, (.iload 4, 0, 0)),
  (23, (.iload_n 1, 0, 0)),
  (24, (.iastore, 0, 0)),
  (25, (.aload_n 0, 0, 0)),
  (26, (.getfield 26, 0, 69)),
  (29, (.iload 4, 0, 0)),
  (31, (.iload_n 1, 0, 0)),
  (32, (.iload_n 2, 0, 0)),
  (33, (.iadd, 0, 0)),
  (34, (.iastore, 0, 0)),
  (35, (.aload_n 0, 0, 0)),
  (36, (.getfield 29, 0, 70)),
  (39, (.iload 4, 0, 0)),
  (41, (.iload_n 3, 0, 0)),
  (42, (.iastore, 0, 0)),
  (43, (.aload_n 0, 0, 0)),
  (44, (.dup, 0, 0)),
  (45, (.getfield 17, 0, 66)),
  (48, (.iconst 1, 0, 0)),
  (49, (.iadd, 0, 0)),
  (50, (.putfield 17, 0, 66)),
  (53, (.iload 4, 0, 0)),
  (55, (.ireturn, 0, 0))], [])
/-- WasmCoreLaw.validate(LWasmCore;[J)I -/
def M_74 : xM := ("WasmCoreLaw", ⟨"WasmCoreLaw", "validate", "(LWasmCore;[J)I"⟩, method_6_code, 3, (some .int), [
  (0, (.aload_n 1, 0, 0)),
  (1, (.iconst 0, 0, 0)),
  (2, (.aload_n 0, 0, 0)),
  (3, (.invokevirtual 25, 0, 1201)),
  (6, (.i2l, 0, 0)),
  (7, (.lastore, 0, 0)),
  (8, (.goto 6, 0, 14)),
  (11, (.astore_n 2, 0, 0)),
  (12, (.iconst 1, 0, 0)),
  (13, (.ireturn, 0, 0)),
  (14, (.iconst 0, 0, 0)),
  (15, (.ireturn, 0, 0))], [(0, 8, 11, 15, 1)])
/-- WasmCore.validate()I -/
def M_75 : xM := ("WasmCore", ⟨"WasmCore", "validate", "()I"⟩, prog_1_method_5_code, 2, (some .int), [
  (0, (.aload_n 0, 0, 0)),
  (1, (.getfield 49, 0, 6)),
  (4, (.ifCond .ne 23, 0, 27)),
  (7, (.aload_n 0, 0, 0)),
  (8, (.getfield 13, 0, 0)),
  (11, (.getfield 105, 0, 66)),
  (14, (.ifCond .eq 13, 0, 27)),
  (17, (.aload_n 0, 0, 0)),
  (18, (.getfield 13, 0, 0)),
  (21, (.invokevirtual 96, 0, 17153)),
  (24, (.ifCond .eq 13, 0, 37)),
  (27, (.new 72, 0, 101)),
  (30, (.dup, 0, 0)),
  (37, (.aload_n 0, 0, 0)),
  (38, (.getfield 28, 0, 1)),
  (41, (.invokevirtual 110, 0, 33217)),
  (44, (.istore_n 1, 0, 0)),
  (45, (.iload_n 1, 0, 0)),
  (46, (.ifCond .ne 11, 0, 57)),
  (49, (.aload_n 0, 0, 0)),
  (50, (.iconst 1, 0, 0)),
  (51, (.putfield 49, 0, 6)),
  (54, (.goto 25, 0, 79)),
  (57, (.aload_n 0, 0, 0)),
  (58, (.aload_n 0, 0, 0)),
  (59, (.getfield 28, 0, 1)),
  (62, (.getfield 114, 0, 138)),
  (65, (.putfield 55, 0, 8)),
  (68, (.aload_n 0, 0, 0)),
  (69, (.aload_n 0, 0, 0)),
  (70, (.getfield 28, 0, 1)),
  (73, (.getfield 117, 0, 139)),
  (76, (.putfield 58, 0, 9)),
  (79, (.iload_n 1, 0, 0)),
  (80, (.ireturn, 0, 0))], [])
/-- WasmCore$Checker.firstError()I -/
def M_76 : xM := ("WasmCore$Checker", ⟨"WasmCore$Checker", "firstError", "()I"⟩, prog_2_method_2_code, 2, (some .int), [
  (0, (.aload_n 0, 0, 0)),
  (1, (.iconst 0, 0, 0)),
  (2, (.putfield 38, 0, 137)),
  (5, (.iconst 0, 0, 0)),
  (6, (.istore_n 1, 0, 0)),
  (7, (.iload_n 1, 0, 0)),
  (8, (.aload_n 0, 0, 0)),
  (9, (.getfield 47, 0, 128)),
  (12, (.getfield 51, 0, 66)),
  (15, (.if_icmp .ge 21, 0, 36)),
  (18, (.aload_n 0, 0, 0)),
  (19, (.getfield 38, 0, 137)),
  (22, (.ifCond .ne 14, 0, 36)),
  (25, (.aload_n 0, 0, 0)),
  (26, (.iload_n 1, 0, 0)),
  (27, (.invokevirtual 56, 0, 33234)),
  (30, (.iinc 1 1, 0, 0)),
  (33, (.goto (-26), 0, 7)),
  (36, (.aload_n 0, 0, 0)),
  (37, (.getfield 38, 0, 137)),
  (40, (.ireturn, 0, 0))], [])
/-- WasmCore$Checker.checkBody(I)V -/
def M_77 : xM := ("WasmCore$Checker", ⟨"WasmCore$Checker", "checkBody", "(I)V"⟩, prog_2_method_3_code, 4, none, [
  (0, (.aload_n 0, 0, 0)),
  (1, (.iload_n 1, 0, 0)),
  (2, (.putfield 41, 0, 138)),
  (5, (.aload_n 0, 0, 0)),
  (6, (.aload_n 0, 0, 0)),
  (7, (.getfield 47, 0, 128)),
  (10, (.iload_n 1, 0, 0)),
  (11, (.invokevirtual 60, 0, 16498)),
  (14, (.putfield 44, 0, 139)),
  (17, (.aload_n 0, 0, 0)),
  (18, (.aload_n 0, 0, 0)),
  (19, (.getfield 47, 0, 128)),
  (22, (.getfield 64, 0, 67)),
  (25, (.iload_n 1, 0, 0)),
  (26, (.iaload, 0, 0)),
  (27, (.putfield 35, 0, 136)),
  (30, (.aload_n 0, 0, 0)),
  (31, (.iconst 0, 0, 0)),
  (32, (.putfield 28, 0, 134)),
  (35, (.aload_n 0, 0, 0)),
  (36, (.iconst 0, 0, 0)),
  (37, (.putfield 32, 0, 135)),
  (40, (.aload_n 0, 0, 0)),
  (41, (.iconst (-1), 0, 0)),
  (42, (.aload_n 0, 0, 0)),
  (43, (.getfield 47, 0, 128)),
  (46, (.getfield 66, 0, 70)),
  (49, (.iload_n 1, 0, 0)),
  (50, (.iaload, 0, 0)),
  (51, (.iconst (-1), 0, 0)),
  (52, (.invokevirtual 69, 0, 33252)),
  (55, (.aload_n 0, 0, 0)),
  (56, (.getfield 35, 0, 136)),
  (59, (.aload_n 0, 0, 0)),
  (60, (.getfield 44, 0, 139)),
  (63, (.isub, 0, 0)),
  (64, (.istore_n 2, 0, 0)),
  (65, (.iload_n 2, 0, 0)),
  (66, (.ifCond .le 81, 0, 147)),
  (69, (.aload_n 0, 0, 0)),
  (70, (.getfield 44, 0, 139)),
  (73, (.aload_n 0, 0, 0)),
  (74, (.getfield 35, 0, 136)),
  (77, (.if_icmp .ge 70, 0, 147)),
  (80, (.aload_n 0, 0, 0)),
  (81, (.getfield 47, 0, 128)),
  (84, (.getfield 73, 0, 64)),
  (87, (.aload_n 0, 0, 0)),
  (88, (.getfield 44, 0, 139)),
  (91, (.iaload, 0, 0)),
  (92, (.istore_n 3, 0, 0)),
  (93, (.aload_n 0, 0, 0)),
  (94, (.iload_n 3, 0, 0)),
  (95, (.invokestatic 76, 0, 257)),
  (98, (.invokevirtual 81, 0, 33282)),
  (101, (.aload_n 0, 0, 0)),
  (102, (.getfield 38, 0, 137)),
  (105, (.ifCond .ne 8, 0, 113)),
  (108, (.aload_n 0, 0, 0)),
  (109, (.iload_n 3, 0, 0)),
  (110, (.invokevirtual 84, 0, 33378)),
  (113, (.aload_n 0, 0, 0)),
  (114, (.getfield 38, 0, 137)),
  (117, (.ifCond .eq 4, 0, 121)),
  (120, (.return_, 0, 0)),
  (121, (.aload_n 0, 0, 0)),
  (122, (.dup, 0, 0)),
  (123, (.getfield 44, 0, 139)),
  (126, (.aload_n 0, 0, 0)),
  (127, (.getfield 47, 0, 128)),
  (130, (.aload_n 0, 0, 0)),
  (131, (.getfield 44, 0, 139)),
  (134, (.invokevirtual 87, 0, 16242)),
  (137, (.iadd, 0, 0)),
  (138, (.putfield 44, 0, 139)),
  (141, (.iinc 2 (-1), 0, 0)),
  (144, (.goto (-79), 0, 65)),
  (147, (.aload_n 0, 0, 0)),
  (148, (.getfield 28, 0, 134)),
  (151, (.ifCond .le 8, 0, 159)),
  (154, (.aload_n 0, 0, 0)),
  (155, (.iconst 1, 0, 0)),
  (156, (.invokevirtual 90, 0, 33266)),
  (159, (.return_, 0, 0))], [])
/-- WasmCore$Checker.openFrame(III)V -/
def M_78 : xM := ("WasmCore$Checker", ⟨"WasmCore$Checker", "openFrame", "(III)V"⟩, prog_2_method_17_code, 4, none, [
  (0, (.aload_n 0, 0, 0)),
  (1, (.getfield 28, 0, 134)),
  (4, (.bipush 9, 0, 0)),
  (6, (.if_icmp .ne 10, 0, 16)),
  (9, (.aload_n 0, 0, 0)),
  (10, (.bipush 6, 0, 0)),
  (12, (.invokevirtual 90, 0, 33266)),
  (15, (.return_, 0, 0)),
  (16, (.aload_n 0, 0, 0)),
  (17, (.getfield 11, 0, 129)),
  (20, (.aload_n 0, 0, 0)),
  (21, (.getfield 28, 0, 134)),
  (24, (.iload_n 1, 0, 0)),
  (25, (.iastore, 0, 0)),
  (26, (.aload_n 0, 0, 0)),
  (27, (.getfield 15, 0, 130)),
  (30, (.aload_n 0, 0, 0)),
  (31, (.getfield 28, 0, 134)),
  (34, (.iload_n 2, 0, 0)),
  (35, (.iastore, 0, 0)),
  (36, (.aload_n 0, 0, 0)),
  (37, (.getfield 18, 0, 131)),
  (40, (.aload_n 0, 0, 0)),
  (41, (.getfield 28, 0, 134)),
  (44, (.aload_n 0, 0, 0)),
  (45, (.getfield 32, 0, 135)),
  (48, (.iastore, 0, 0)),
  (49, (.aload_n 0, 0, 0)),
  (50, (.getfield 21, 0, 132)),
  (53, (.aload_n 0, 0, 0)),
  (54, (.getfield 28, 0, 134)),
  (57, (.iconst 1, 0, 0)),
  (58, (.bastore, 0, 0)),
  (59, (.aload_n 0, 0, 0)),
  (60, (.getfield 25, 0, 133)),
  (63, (.aload_n 0, 0, 0)),
  (64, (.getfield 28, 0, 134)),
  (67, (.iload_n 3, 0, 0)),
  (68, (.iastore, 0, 0)),
  (69, (.aload_n 0, 0, 0)),
  (70, (.dup, 0, 0)),
  (71, (.getfield 28, 0, 134)),
  (74, (.iconst 1, 0, 0)),
  (75, (.iadd, 0, 0)),
  (76, (.putfield 28, 0, 134)),
  (79, (.iload_n 3, 0, 0)),
  (80, (.iconst (-1), 0, 0)),
  (81, (.if_icmp .eq 26, 0, 107)),
  (84, (.aload_n 0, 0, 0)),
  (85, (.getfield 47, 0, 128)),
  (88, (.getfield 165, 0, 73)),
  (91, (.iload_n 3, 0, 0)),
  (92, (.aload_n 0, 0, 0)),
  (93, (.getfield 32, 0, 135)),
  (96, (.iastore, 0, 0)),
  (97, (.aload_n 0, 0, 0)),
  (98, (.getfield 47, 0, 128)),
  (101, (.getfield 153, 0, 72)),
  (104, (.iload_n 3, 0, 0)),
  (105, (.iconst (-1), 0, 0)),
  (106, (.iastore, 0, 0)),
  (107, (.return_, 0, 0))], [])
/-- WasmCore$Checker.fail(I)V -/
def M_79 : xM := ("WasmCore$Checker", ⟨"WasmCore$Checker", "fail", "(I)V"⟩, prog_2_method_4_code, 2, none, [
  (0, (.aload_n 0, 0, 0)),
  (1, (.getfield 38, 0, 137)),
  (4, (.ifCond .ne 8, 0, 12)),
  (7, (.aload_n 0, 0, 0)),
  (8, (.iload_n 1, 0, 0)),
  (9, (.putfield 38, 0, 137)),
  (12, (.return_, 0, 0))], [])
/-- WasmCore$Checker.checkImmediates(I)V -/
def M_80 : xM := ("WasmCore$Checker", ⟨"WasmCore$Checker", "checkImmediates", "(I)V"⟩, prog_2_method_5_code, 2, none, [
  (0, (.iload_n 1, 0, 0)),
  (1, (.ifCond .ne 4, 0, 5)),
  (4, (.return_, 0, 0)),
  (5, (.iload_n 1, 0, 0)),
  (6, (.iconst (-1), 0, 0)),
  (7, (.if_icmp .eq 16, 0, 23)),
  (10, (.aload_n 0, 0, 0)),
  (11, (.getfield 44, 0, 139)),
  (14, (.iconst 1, 0, 0)),
  (15, (.iadd, 0, 0)),
  (16, (.aload_n 0, 0, 0)),
  (17, (.getfield 35, 0, 136)),
  (20, (.if_icmp .lt 11, 0, 31)),
  (23, (.aload_n 0, 0, 0)),
  (24, (.iconst 1, 0, 0)),
  (25, (.invokevirtual 90, 0, 33266)),
  (28, (.goto 54, 0, 82)),
  (31, (.iload_n 1, 0, 0)),
  (32, (.iconst 3, 0, 0)),
  (33, (.if_icmp .ne 14, 0, 47)),
  (36, (.aload_n 0, 0, 0)),
  (37, (.aload_n 0, 0, 0)),
  (38, (.invokevirtual 93, 0, 33297)),
  (41, (.invokevirtual 97, 0, 33314)),
  (44, (.goto 38, 0, 82)),
  (47, (.iload_n 1, 0, 0)),
  (48, (.iconst 2, 0, 0)),
  (49, (.if_icmp .ne 16, 0, 65)),
  (52, (.aload_n 0, 0, 0)),
  (53, (.aload_n 0, 0, 0)),
  (54, (.getfield 44, 0, 139)),
  (57, (.iconst 1, 0, 0)),
  (58, (.iadd, 0, 0)),
  (59, (.invokevirtual 100, 0, 33330)),
  (62, (.goto 20, 0, 82)),
  (65, (.aload_n 0, 0, 0)),
  (66, (.iload_n 1, 0, 0)),
  (67, (.aload_n 0, 0, 0)),
  (68, (.invokevirtual 93, 0, 33297)),
  (71, (.invokevirtual 103, 0, 33347)),
  (74, (.ifCond .ne 8, 0, 82)),
  (77, (.aload_n 0, 0, 0)),
  (78, (.iconst 5, 0, 0)),
  (79, (.invokevirtual 90, 0, 33266)),
  (82, (.return_, 0, 0))], [])
/-- WasmCore$Checker.immediate()I -/
def M_81 : xM := ("WasmCore$Checker", ⟨"WasmCore$Checker", "immediate", "()I"⟩, prog_2_method_6_code, 1, (some .int), [
  (0, (.aload_n 0, 0, 0)),
  (1, (.getfield 47, 0, 128)),
  (4, (.getfield 73, 0, 64)),
  (7, (.aload_n 0, 0, 0)),
  (8, (.getfield 44, 0, 139)),
  (11, (.iconst 1, 0, 0)),
  (12, (.iadd, 0, 0)),
  (13, (.iaload, 0, 0)),
  (14, (.ireturn, 0, 0))], [])
/-- WasmCore$Checker.checkTable(I)V -/
def M_82 : xM := ("WasmCore$Checker", ⟨"WasmCore$Checker", "checkTable", "(I)V"⟩, prog_2_method_8_code, 3, none, [
  (0, (.iload_n 1, 0, 0)),
  (1, (.ifCond .lt 9, 0, 10)),
  (4, (.iload_n 1, 0, 0)),
  (5, (.bipush 8, 0, 0)),
  (7, (.if_icmp .le 11, 0, 18)),
  (10, (.aload_n 0, 0, 0)),
  (11, (.iconst 5, 0, 0)),
  (12, (.invokevirtual 90, 0, 33266)),
  (15, (.goto 51, 0, 66)),
  (18, (.aload_n 0, 0, 0)),
  (19, (.getfield 44, 0, 139)),
  (22, (.iconst 2, 0, 0)),
  (23, (.iadd, 0, 0)),
  (24, (.iload_n 1, 0, 0)),
  (25, (.iadd, 0, 0)),
  (26, (.aload_n 0, 0, 0)),
  (27, (.getfield 35, 0, 136)),
  (30, (.if_icmp .lt 11, 0, 41)),
  (33, (.aload_n 0, 0, 0)),
  (34, (.iconst 1, 0, 0)),
  (35, (.invokevirtual 90, 0, 33266)),
  (38, (.goto 28, 0, 66)),
  (41, (.iconst 0, 0, 0)),
  (42, (.istore_n 2, 0, 0)),
  (43, (.iload_n 2, 0, 0)),
  (44, (.iload_n 1, 0, 0)),
  (45, (.if_icmp .gt 21, 0, 66)),
  (48, (.aload_n 0, 0, 0)),
  (49, (.aload_n 0, 0, 0)),
  (50, (.getfield 44, 0, 139)),
  (53, (.iconst 2, 0, 0)),
  (54, (.iadd, 0, 0)),
  (55, (.iload_n 2, 0, 0)),
  (56, (.iadd, 0, 0)),
  (57, (.invokevirtual 100, 0, 33330)),
  (60, (.iinc 2 1, 0, 0)),
  (63, (.goto (-20), 0, 43)),
  (66, (.return_, 0, 0))], [])
/-- WasmCore$Checker.checkLabel(I)V -/
def M_83 : xM := ("WasmCore$Checker", ⟨"WasmCore$Checker", "checkLabel", "(I)V"⟩, prog_2_method_9_code, 3, none, [
  (0, (.aload_n 0, 0, 0)),
  (1, (.getfield 47, 0, 128)),
  (4, (.getfield 73, 0, 64)),
  (7, (.iload_n 1, 0, 0)),
  (8, (.iaload, 0, 0)),
  (9, (.istore_n 2, 0, 0)),
  (10, (.iload_n 2, 0, 0)),
  (11, (.ifCond .lt 11, 0, 22)),
  (14, (.iload_n 2, 0, 0)),
  (15, (.aload_n 0, 0, 0)),
  (16, (.getfield 28, 0, 134)),
  (19, (.if_icmp .lt 11, 0, 30)),
  (22, (.aload_n 0, 0, 0)),
  (23, (.iconst 4, 0, 0)),
  (24, (.invokevirtual 90, 0, 33266)),
  (27, (.goto 25, 0, 52)),
  (30, (.aload_n 0, 0, 0)),
  (31, (.getfield 47, 0, 128)),
  (34, (.getfield 116, 0, 74)),
  (37, (.iload_n 1, 0, 0)),
  (38, (.aload_n 0, 0, 0)),
  (39, (.getfield 25, 0, 133)),
  (42, (.aload_n 0, 0, 0)),
  (43, (.getfield 28, 0, 134)),
  (46, (.iconst 1, 0, 0)),
  (47, (.isub, 0, 0)),
  (48, (.iload_n 2, 0, 0)),
  (49, (.isub, 0, 0)),
  (50, (.iaload, 0, 0)),
  (51, (.iastore, 0, 0)),
  (52, (.return_, 0, 0))], [])
/-- WasmCore$Checker.isAllowed(II)Z -/
def M_84 : xM := ("WasmCore$Checker", ⟨"WasmCore$Checker", "isAllowed", "(II)Z"⟩, prog_2_method_7_code, 3, (some .boolean), [
  (0, (.iload_n 1, 0, 0)),
  (1, (.tableswitch 118 1 7 #[43, 118, 118, 58, 67, 93, 108], 43, 0)),
  (44, (.iload_n 2, 0, 0)),
  (45, (.ifCond .eq 8, 0, 53)),
  (48, (.iload_n 2, 0, 0)),
  (49, (.iconst 1, 0, 0)),
  (50, (.if_icmp .ne 7, 0, 57)),
  (53, (.iconst 1, 0, 0)),
  (54, (.goto 4, 0, 58)),
  (57, (.iconst 0, 0, 0)),
  (58, (.ireturn, 0, 1)),
  (59, (.aload_n 0, 0, 0)),
  (60, (.getfield 47, 0, 128)),
  (63, (.iload_n 2, 0, 0)),
  (64, (.invokevirtual 107, 0, 17362)),
  (67, (.ireturn, 0, 1)),
  (68, (.iload_n 2, 0, 0)),
  (69, (.ifCond .lt 23, 0, 92)),
  (72, (.iload_n 2, 0, 0)),
  (73, (.aload_n 0, 0, 0)),
  (74, (.getfield 47, 0, 128)),
  (77, (.getfield 111, 0, 69)),
  (80, (.aload_n 0, 0, 0)),
  (81, (.getfield 41, 0, 138)),
  (84, (.iaload, 0, 0)),
  (85, (.if_icmp .ge 7, 0, 92)),
  (88, (.iconst 1, 0, 0)),
  (89, (.goto 4, 0, 93)),
  (92, (.iconst 0, 0, 0)),
  (93, (.ireturn, 0, 1)),
  (94, (.iload_n 2, 0, 0)),
  (95, (.ifCond .lt 12, 0, 107)),
  (98, (.iload_n 2, 0, 0)),
  (99, (.iconst 4, 0, 0)),
  (100, (.if_icmp .ge 7, 0, 107)),
  (103, (.iconst 1, 0, 0)),
  (104, (.goto 4, 0, 108)),
  (107, (.iconst 0, 0, 0)),
  (108, (.ireturn, 0, 1)),
  (109, (.iload_n 2, 0, 0)),
  (110, (.ifCond .lt 7, 0, 117)),
  (113, (.iconst 1, 0, 0)),
  (114, (.goto 4, 0, 118)),
  (117, (.iconst 0, 0, 0)),
  (118, (.ireturn, 0, 1)),
  (119, (.iconst 1, 0, 0)),
  (120, (.ireturn, 0, 1))], [])
/-- WasmCore$Code.hasFunction(I)Z -/
def M_85 : xM := ("WasmCore$Code", ⟨"WasmCore$Code", "hasFunction", "(I)Z"⟩, prog_3_method_8_code, 2, (some .boolean), [
  (0, (.iload_n 1, 0, 0)),
  (1, (.ifCond .lt 15, 0, 16)),
  (4, (.iload_n 1, 0, 0)),
  (5, (.aload_n 0, 0, 0)),
  (6, (.getfield 17, 0, 66)),
  (9, (.if_icmp .ge 7, 0, 16)),
  (12, (.iconst 1, 0, 0)),
  (13, (.goto 4, 0, 17)),
  (16, (.iconst 0, 0, 0)),
  (17, (.ireturn, 0, 1))], [])
/-- WasmCore$Checker.checkTyping(I)V -/
def M_86 : xM := ("WasmCore$Checker", ⟨"WasmCore$Checker", "checkTyping", "(I)V"⟩, prog_2_method_11_code, 2, none, [
  (0, (.iload_n 1, 0, 0)),
  (1, (.tableswitch 259 0 16 #[83, 259, 111, 111, 90, 127, 259, 259, 259, 259, 259, 134, 141, 162, 194, 205, 228], 83, 0)),
  (84, (.aload_n 0, 0, 0)),
  (85, (.invokevirtual 119, 0, 33393)),
  (88, (.goto 184, 0, 272)),
  (91, (.aload_n 0, 0, 0)),
  (92, (.iconst 1, 0, 0)),
  (93, (.invokevirtual 122, 0, 33410)),
  (96, (.aload_n 0, 0, 0)),
  (97, (.iload_n 1, 0, 0)),
  (98, (.aload_n 0, 0, 0)),
  (99, (.invokevirtual 93, 0, 33297)),
  (102, (.aload_n 0, 0, 0)),
  (103, (.getfield 44, 0, 139)),
  (106, (.invokevirtual 69, 0, 33252)),
  (109, (.goto 163, 0, 272)),
  (112, (.aload_n 0, 0, 0)),
  (113, (.iload_n 1, 0, 0)),
  (114, (.aload_n 0, 0, 0)),
  (115, (.invokevirtual 93, 0, 33297)),
  (118, (.aload_n 0, 0, 0)),
  (119, (.getfield 44, 0, 139)),
  (122, (.invokevirtual 69, 0, 33252)),
  (125, (.goto 147, 0, 272)),
  (128, (.aload_n 0, 0, 0)),
  (129, (.invokevirtual 125, 0, 33425)),
  (132, (.goto 140, 0, 272)),
  (135, (.aload_n 0, 0, 0)),
  (136, (.invokevirtual 128, 0, 33457)),
  (139, (.goto 133, 0, 272)),
  (142, (.aload_n 0, 0, 0)),
  (143, (.aload_n 0, 0, 0)),
  (144, (.aload_n 0, 0, 0)),
  (145, (.getfield 44, 0, 139)),
  (148, (.iconst 1, 0, 0)),
  (149, (.iadd, 0, 0)),
  (150, (.invokevirtual 131, 0, 33506)),
  (153, (.invokevirtual 122, 0, 33410)),
  (156, (.aload_n 0, 0, 0)),
  (157, (.invokevirtual 119, 0, 33393)),
  (160, (.goto 112, 0, 272)),
  (163, (.aload_n 0, 0, 0)),
  (164, (.iconst 1, 0, 0)),
  (165, (.invokevirtual 122, 0, 33410)),
  (168, (.aload_n 0, 0, 0)),
  (169, (.aload_n 0, 0, 0)),
  (170, (.aload_n 0, 0, 0)),
  (171, (.getfield 44, 0, 139)),
  (174, (.iconst 1, 0, 0)),
  (175, (.iadd, 0, 0)),
  (176, (.invokevirtual 131, 0, 33506)),
  (179, (.aload_n 0, 0, 0)),
  (180, (.aload_n 0, 0, 0)),
  (181, (.getfield 44, 0, 139)),
  (184, (.iconst 1, 0, 0)),
  (185, (.iadd, 0, 0)),
  (186, (.invokevirtual 131, 0, 33506)),
  (189, (.invokevirtual 134, 0, 33523)),
  (192, (.goto 80, 0, 272)),
  (195, (.aload_n 0, 0, 0)),
  (196, (.aload_n 0, 0, 0)),
  (197, (.invokevirtual 93, 0, 33297)),
  (200, (.invokevirtual 138, 0, 33538)),
  (203, (.goto 69, 0, 272)),
  (206, (.aload_n 0, 0, 0)),
  (207, (.aload_n 0, 0, 0)),
  (208, (.getfield 47, 0, 128)),
  (211, (.getfield 66, 0, 70)),
  (214, (.aload_n 0, 0, 0)),
  (215, (.getfield 41, 0, 138)),
  (218, (.iaload, 0, 0)),
  (219, (.invokevirtual 122, 0, 33410)),
  (222, (.aload_n 0, 0, 0)),
  (223, (.invokevirtual 119, 0, 33393)),
  (226, (.goto 46, 0, 272)),
  (229, (.aload_n 0, 0, 0)),
  (230, (.aload_n 0, 0, 0)),
  (231, (.getfield 47, 0, 128)),
  (234, (.getfield 141, 0, 68)),
  (237, (.aload_n 0, 0, 0)),
  (238, (.invokevirtual 93, 0, 33297)),
  (241, (.iaload, 0, 0)),
  (242, (.aload_n 0, 0, 0)),
  (243, (.getfield 47, 0, 128)),
  (246, (.getfield 66, 0, 70)),
  (249, (.aload_n 0, 0, 0)),
  (250, (.invokevirtual 93, 0, 33297)),
  (253, (.iaload, 0, 0)),
  (254, (.invokevirtual 134, 0, 33523)),
  (257, (.goto 15, 0, 272)),
  (260, (.aload_n 0, 0, 0)),
  (261, (.iload_n 1, 0, 0)),
  (262, (.invokestatic 144, 0, 1553)),
  (265, (.iload_n 1, 0, 0)),
  (266, (.invokestatic 147, 0, 1569)),
  (269, (.invokevirtual 134, 0, 33523)),
  (272, (.return_, 0, 0))], [])
/-- WasmCore$Checker.leaveOff()V -/
def M_87 : xM := ("WasmCore$Checker", ⟨"WasmCore$Checker", "leaveOff", "()V"⟩, prog_2_method_18_code, 1, none, [
  (0, (.aload_n 0, 0, 0)),
  (1, (.aload_n 0, 0, 0)),
  (2, (.getfield 18, 0, 131)),
  (5, (.aload_n 0, 0, 0)),
  (6, (.getfield 28, 0, 134)),
  (9, (.iconst 1, 0, 0)),
  (10, (.isub, 0, 0)),
  (11, (.iaload, 0, 0)),
  (12, (.putfield 32, 0, 135)),
  (15, (.aload_n 0, 0, 0)),
  (16, (.getfield 21, 0, 132)),
  (19, (.aload_n 0, 0, 0)),
  (20, (.getfield 28, 0, 134)),
  (23, (.iconst 1, 0, 0)),
  (24, (.isub, 0, 0)),
  (25, (.iconst 0, 0, 0)),
  (26, (.bastore, 0, 0)),
  (27, (.return_, 0, 0))], [])
/-- WasmCore$Checker.popValues(I)V -/
def M_88 : xM := ("WasmCore$Checker", ⟨"WasmCore$Checker", "popValues", "(I)V"⟩, prog_2_method_20_code, 4, none, [
  (0, (.aload_n 0, 0, 0)),
  (1, (.getfield 28, 0, 134)),
  (4, (.iconst 1, 0, 0)),
  (5, (.isub, 0, 0)),
  (6, (.istore_n 2, 0, 0)),
  (7, (.iconst 0, 0, 0)),
  (8, (.istore_n 3, 0, 0)),
  (9, (.iload_n 3, 0, 0)),
  (10, (.iload_n 1, 0, 0)),
  (11, (.if_icmp .ge 49, 0, 60)),
  (14, (.aload_n 0, 0, 0)),
  (15, (.getfield 32, 0, 135)),
  (18, (.aload_n 0, 0, 0)),
  (19, (.getfield 18, 0, 131)),
  (22, (.iload_n 2, 0, 0)),
  (23, (.iaload, 0, 0)),
  (24, (.if_icmp .le 16, 0, 40)),
  (27, (.aload_n 0, 0, 0)),
  (28, (.dup, 0, 0)),
  (29, (.getfield 32, 0, 135)),
  (32, (.iconst 1, 0, 0)),
  (33, (.isub, 0, 0)),
  (34, (.putfield 32, 0, 135)),
  (37, (.goto 17, 0, 54)),
  (40, (.aload_n 0, 0, 0)),
  (41, (.getfield 21, 0, 132)),
  (44, (.iload_n 2, 0, 0)),
  (45, (.baload, 0, 0)),
  (46, (.ifCond .eq 8, 0, 54)),
  (49, (.aload_n 0, 0, 0)),
  (50, (.iconst 2, 0, 0)),
  (51, (.invokevirtual 90, 0, 33266)),
  (54, (.iinc 3 1, 0, 0)),
  (57, (.goto (-48), 0, 9)),
  (60, (.return_, 0, 0))], [])
/-- WasmCore$Checker.checkElse()V -/
def M_89 : xM := ("WasmCore$Checker", ⟨"WasmCore$Checker", "checkElse", "()V"⟩, prog_2_method_12_code, 2, none, [
  (0, (.aload_n 0, 0, 0)),
  (1, (.getfield 28, 0, 134)),
  (4, (.iconst 1, 0, 0)),
  (5, (.isub, 0, 0)),
  (6, (.istore_n 1, 0, 0)),
  (7, (.aload_n 0, 0, 0)),
  (8, (.getfield 11, 0, 129)),
  (11, (.iload_n 1, 0, 0)),
  (12, (.iaload, 0, 0)),
  (13, (.iconst 4, 0, 0)),
  (14, (.if_icmp .eq 9, 0, 23)),
  (17, (.aload_n 0, 0, 0)),
  (18, (.iconst 3, 0, 0)),
  (19, (.invokevirtual 90, 0, 33266)),
  (22, (.return_, 0, 0)),
  (23, (.aload_n 0, 0, 0)),
  (24, (.iload_n 1, 0, 0)),
  (25, (.invokevirtual 150, 0, 33442)),
  (28, (.aload_n 0, 0, 0)),
  (29, (.getfield 11, 0, 129)),
  (32, (.iload_n 1, 0, 0)),
  (33, (.iconst 5, 0, 0)),
  (34, (.iastore, 0, 0)),
  (35, (.aload_n 0, 0, 0)),
  (36, (.getfield 21, 0, 132)),
  (39, (.iload_n 1, 0, 0)),
  (40, (.iconst 1, 0, 0)),
  (41, (.bastore, 0, 0)),
  (42, (.aload_n 0, 0, 0)),
  (43, (.getfield 47, 0, 128)),
  (46, (.getfield 153, 0, 72)),
  (49, (.aload_n 0, 0, 0)),
  (50, (.getfield 25, 0, 133)),
  (53, (.iload_n 1, 0, 0)),
  (54, (.iaload, 0, 0)),
  (55, (.aload_n 0, 0, 0)),
  (56, (.getfield 44, 0, 139)),
  (59, (.iastore, 0, 0)),
  (60, (.return_, 0, 0))], [])
/-- WasmCore$Checker.closeHeight(I)V -/
def M_90 : xM := ("WasmCore$Checker", ⟨"WasmCore$Checker", "closeHeight", "(I)V"⟩, prog_2_method_14_code, 2, none, [
  (0, (.aload_n 0, 0, 0)),
  (1, (.aload_n 0, 0, 0)),
  (2, (.getfield 15, 0, 130)),
  (5, (.iload_n 1, 0, 0)),
  (6, (.iaload, 0, 0)),
  (7, (.invokevirtual 122, 0, 33410)),
  (10, (.aload_n 0, 0, 0)),
  (11, (.getfield 32, 0, 135)),
  (14, (.aload_n 0, 0, 0)),
  (15, (.getfield 18, 0, 131)),
  (18, (.iload_n 1, 0, 0)),
  (19, (.iaload, 0, 0)),
  (20, (.if_icmp .eq 8, 0, 28)),
  (23, (.aload_n 0, 0, 0)),
  (24, (.iconst 3, 0, 0)),
  (25, (.invokevirtual 90, 0, 33266)),
  (28, (.return_, 0, 0))], [])
/-- WasmCore$Checker.checkEnd()V -/
def M_91 : xM := ("WasmCore$Checker", ⟨"WasmCore$Checker", "checkEnd", "()V"⟩, prog_2_method_13_code, 2, none, [
  (0, (.aload_n 0, 0, 0)),
  (1, (.getfield 28, 0, 134)),
  (4, (.iconst 1, 0, 0)),
  (5, (.isub, 0, 0)),
  (6, (.istore_n 1, 0, 0)),
  (7, (.aload_n 0, 0, 0)),
  (8, (.iload_n 1, 0, 0)),
  (9, (.invokevirtual 150, 0, 33442)),
  (12, (.aload_n 0, 0, 0)),
  (13, (.getfield 11, 0, 129)),
  (16, (.iload_n 1, 0, 0)),
  (17, (.iaload, 0, 0)),
  (18, (.iconst 4, 0, 0)),
  (19, (.if_icmp .ne 17, 0, 36)),
  (22, (.aload_n 0, 0, 0)),
  (23, (.getfield 15, 0, 130)),
  (26, (.iload_n 1, 0, 0)),
  (27, (.iaload, 0, 0)),
  (28, (.ifCond .eq 8, 0, 36)),
  (31, (.aload_n 0, 0, 0)),
  (32, (.iconst 3, 0, 0)),
  (33, (.invokevirtual 90, 0, 33266)),
  (36, (.aload_n 0, 0, 0)),
  (37, (.getfield 38, 0, 137)),
  (40, (.ifCond .eq 4, 0, 44)),
  (43, (.return_, 0, 0)),
  (44, (.aload_n 0, 0, 0)),
  (45, (.iload_n 1, 0, 0)),
  (46, (.invokevirtual 156, 0, 33474)),
  (49, (.aload_n 0, 0, 0)),
  (50, (.dup, 0, 0)),
  (51, (.getfield 28, 0, 134)),
  (54, (.iconst 1, 0, 0)),
  (55, (.isub, 0, 0)),
  (56, (.putfield 28, 0, 134)),
  (59, (.aload_n 0, 0, 0)),
  (60, (.getfield 11, 0, 129)),
  (63, (.iload_n 1, 0, 0)),
  (64, (.iaload, 0, 0)),
  (65, (.iconst (-1), 0, 0)),
  (66, (.if_icmp .eq 16, 0, 82)),
  (69, (.aload_n 0, 0, 0)),
  (70, (.aload_n 0, 0, 0)),
  (71, (.getfield 15, 0, 130)),
  (74, (.iload_n 1, 0, 0)),
  (75, (.iaload, 0, 0)),
  (76, (.invokevirtual 159, 0, 33490)),
  (79, (.goto 22, 0, 101)),
  (82, (.aload_n 0, 0, 0)),
  (83, (.getfield 44, 0, 139)),
  (86, (.aload_n 0, 0, 0)),
  (87, (.getfield 35, 0, 136)),
  (90, (.iconst 1, 0, 0)),
  (91, (.isub, 0, 0)),
  (92, (.if_icmp .eq 9, 0, 101)),
  (95, (.aload_n 0, 0, 0)),
  (96, (.bipush 7, 0, 0)),
  (98, (.invokevirtual 90, 0, 33266)),
  (101, (.return_, 0, 0))], [])
/-- WasmCore$Checker.noteEnd(I)V -/
def M_92 : xM := ("WasmCore$Checker", ⟨"WasmCore$Checker", "noteEnd", "(I)V"⟩, prog_2_method_15_code, 3, none, [
  (0, (.aload_n 0, 0, 0)),
  (1, (.getfield 25, 0, 133)),
  (4, (.iload_n 1, 0, 0)),
  (5, (.iaload, 0, 0)),
  (6, (.istore_n 2, 0, 0)),
  (7, (.iload_n 2, 0, 0)),
  (8, (.iconst (-1), 0, 0)),
  (9, (.if_icmp .ne 4, 0, 13)),
  (12, (.return_, 0, 0)),
  (13, (.aload_n 0, 0, 0)),
  (14, (.getfield 47, 0, 128)),
  (17, (.getfield 162, 0, 71)),
  (20, (.iload_n 2, 0, 0)),
  (21, (.aload_n 0, 0, 0)),
  (22, (.getfield 44, 0, 139)),
  (25, (.iastore, 0, 0)),
  (26, (.aload_n 0, 0, 0)),
  (27, (.getfield 11, 0, 129)),
  (30, (.iload_n 1, 0, 0)),
  (31, (.iaload, 0, 0)),
  (32, (.iconst 5, 0, 0)),
  (33, (.if_icmp .ne 24, 0, 57)),
  (36, (.aload_n 0, 0, 0)),
  (37, (.getfield 47, 0, 128)),
  (40, (.getfield 162, 0, 71)),
  (43, (.aload_n 0, 0, 0)),
  (44, (.getfield 47, 0, 128)),
  (47, (.getfield 153, 0, 72)),
  (50, (.iload_n 2, 0, 0)),
  (51, (.iaload, 0, 0)),
  (52, (.aload_n 0, 0, 0)),
  (53, (.getfield 44, 0, 139)),
  (56, (.iastore, 0, 0)),
  (57, (.return_, 0, 0))], [])
/-- WasmCore$Checker.pushValues(I)V -/
def M_93 : xM := ("WasmCore$Checker", ⟨"WasmCore$Checker", "pushValues", "(I)V"⟩, prog_2_method_21_code, 2, none, [
  (0, (.aload_n 0, 0, 0)),
  (1, (.getfield 32, 0, 135)),
  (4, (.iload_n 1, 0, 0)),
  (5, (.iadd, 0, 0)),
  (6, (.bipush 20, 0, 0)),
  (8, (.if_icmp .le 12, 0, 20)),
  (11, (.aload_n 0, 0, 0)),
  (12, (.bipush 6, 0, 0)),
  (14, (.invokevirtual 90, 0, 33266)),
  (17, (.goto 13, 0, 30)),
  (20, (.aload_n 0, 0, 0)),
  (21, (.dup, 0, 0)),
  (22, (.getfield 32, 0, 135)),
  (25, (.iload_n 1, 0, 0)),
  (26, (.iadd, 0, 0)),
  (27, (.putfield 32, 0, 135)),
  (30, (.return_, 0, 0))], [])
/-- WasmCore$Checker.takenByLabel(I)I -/
def M_94 : xM := ("WasmCore$Checker", ⟨"WasmCore$Checker", "takenByLabel", "(I)I"⟩, prog_2_method_10_code, 3, (some .int), [
  (0, (.aload_n 0, 0, 0)),
  (1, (.getfield 28, 0, 134)),
  (4, (.iconst 1, 0, 0)),
  (5, (.isub, 0, 0)),
  (6, (.aload_n 0, 0, 0)),
  (7, (.getfield 47, 0, 128)),
  (10, (.getfield 73, 0, 64)),
  (13, (.iload_n 1, 0, 0)),
  (14, (.iaload, 0, 0)),
  (15, (.isub, 0, 0)),
  (16, (.istore_n 2, 0, 0)),
  (17, (.aload_n 0, 0, 0)),
  (18, (.getfield 11, 0, 129)),
  (21, (.iload_n 2, 0, 0)),
  (22, (.iaload, 0, 0)),
  (23, (.iconst 3, 0, 0)),
  (24, (.if_icmp .ne 7, 0, 31)),
  (27, (.iconst 0, 0, 0)),
  (28, (.goto 9, 0, 37)),
  (31, (.aload_n 0, 0, 0)),
  (32, (.getfield 15, 0, 130)),
  (35, (.iload_n 2, 0, 0)),
  (36, (.iaload, 0, 0)),
  (37, (.ireturn, 0, 0))], [])
/-- WasmCore$Checker.exchange(II)V -/
def M_95 : xM := ("WasmCore$Checker", ⟨"WasmCore$Checker", "exchange", "(II)V"⟩, prog_2_method_19_code, 3, none, [
  (0, (.aload_n 0, 0, 0)),
  (1, (.iload_n 1, 0, 0)),
  (2, (.invokevirtual 122, 0, 33410)),
  (5, (.aload_n 0, 0, 0)),
  (6, (.iload_n 2, 0, 0)),
  (7, (.invokevirtual 159, 0, 33490)),
  (10, (.return_, 0, 0))], [])
/-- WasmCore$Checker.checkTableTyping(I)V -/
def M_96 : xM := ("WasmCore$Checker", ⟨"WasmCore$Checker", "checkTableTyping", "(I)V"⟩, prog_2_method_16_code, 4, none, [
  (0, (.aload_n 0, 0, 0)),
  (1, (.aload_n 0, 0, 0)),
  (2, (.getfield 44, 0, 139)),
  (5, (.iconst 2, 0, 0)),
  (6, (.iadd, 0, 0)),
  (7, (.invokevirtual 131, 0, 33506)),
  (10, (.istore_n 2, 0, 0)),
  (11, (.iconst 1, 0, 0)),
  (12, (.istore_n 3, 0, 0)),
  (13, (.iload_n 3, 0, 0)),
  (14, (.iload_n 1, 0, 0)),
  (15, (.if_icmp .gt 30, 0, 45)),
  (18, (.aload_n 0, 0, 0)),
  (19, (.aload_n 0, 0, 0)),
  (20, (.getfield 44, 0, 139)),
  (23, (.iconst 2, 0, 0)),
  (24, (.iadd, 0, 0)),
  (25, (.iload_n 3, 0, 0)),
  (26, (.iadd, 0, 0)),
  (27, (.invokevirtual 131, 0, 33506)),
  (30, (.iload_n 2, 0, 0)),
  (31, (.if_icmp .eq 8, 0, 39)),
  (34, (.aload_n 0, 0, 0)),
  (35, (.iconst 3, 0, 0)),
  (36, (.invokevirtual 90, 0, 33266)),
  (39, (.iinc 3 1, 0, 0)),
  (42, (.goto (-29), 0, 13)),
  (45, (.aload_n 0, 0, 0)),
  (46, (.iconst 1, 0, 0)),
  (47, (.invokevirtual 122, 0, 33410)),
  (50, (.aload_n 0, 0, 0)),
  (51, (.iload_n 2, 0, 0)),
  (52, (.invokevirtual 122, 0, 33410)),
  (55, (.aload_n 0, 0, 0)),
  (56, (.invokevirtual 119, 0, 33393)),
  (59, (.return_, 0, 0))], [])
/-- WasmCore$Op.takes(I)I -/
def M_97 : xM := ("WasmCore$Op", ⟨"WasmCore$Op", "takes", "(I)I"⟩, prog_7_method_6_code, 1, (some .int), [
  (0, (.iload_n 0, 0, 0)),
  (1, (.tableswitch 177 26 64 #[171, 175, 177, 177, 177, 177, 177, 171, 171, 177, 171, 177, 177, 177, 171, 177, 177, 177, 171, 171, 171, 171, 177, 177, 177, 177, 177, 177, 173, 177, 177, 177, 173, 173, 177, 177, 177, 177, 171], 171, 0)),
  (172, (.iconst 1, 0, 0)),
  (173, (.ireturn, 0, 0)),
  (174, (.iconst 2, 0, 0)),
  (175, (.ireturn, 0, 0)),
  (176, (.iconst 3, 0, 0)),
  (177, (.ireturn, 0, 0)),
  (178, (.iload_n 0, 0, 0)),
  (179, (.invokestatic 13, 0, 721)),
  (182, (.ifCond .eq 7, 0, 189)),
  (185, (.iconst 1, 0, 0)),
  (186, (.goto 15, 0, 201)),
  (189, (.iload_n 0, 0, 0)),
  (190, (.invokestatic 9, 0, 273)),
  (193, (.ifCond .eq 7, 0, 200)),
  (196, (.iconst 2, 0, 0)),
  (197, (.goto 4, 0, 201)),
  (200, (.iconst 0, 0, 0)),
  (201, (.ireturn, 0, 0))], [])
/-- WasmCore$Op.gives(I)I -/
def M_98 : xM := ("WasmCore$Op", ⟨"WasmCore$Op", "gives", "(I)I"⟩, prog_7_method_7_code, 1, (some .int), [
  (0, (.iload_n 0, 0, 0)),
  (1, (.lookupswitch 69 #[(1, 67), (26, 67), (33, 67), (36, 67), (54, 67), (58, 67), (59, 67)], 67, 0)),
  (68, (.iconst 0, 0, 0)),
  (69, (.ireturn, 0, 0)),
  (70, (.iconst 1, 0, 0)),
  (71, (.ireturn, 0, 0))], [])
/-- WasmCoreLaw.invoke(LWasmCore;I)I -/
def M_99 : xM := ("WasmCoreLaw", ⟨"WasmCoreLaw", "invoke", "(LWasmCore;I)I"⟩, method_7_code, 3, (some .int), [
  (0, (.aload_n 0, 0, 0)),
  (1, (.iload_n 1, 0, 0)),
  (2, (.invokevirtual 29, 0, 1602)),
  (5, (.goto 12, 0, 17)),
  (8, (.astore_n 2, 0, 0)),
  (9, (.iconst 1, 0, 0)),
  (10, (.ireturn, 0, 0)),
  (11, (.astore_n 2, 0, 0)),
  (12, (.iconst 2, 0, 0)),
  (13, (.ireturn, 0, 0)),
  (14, (.astore_n 2, 0, 0)),
  (15, (.iconst 3, 0, 0)),
  (16, (.ireturn, 0, 0)),
  (17, (.iconst 0, 0, 0)),
  (18, (.ireturn, 0, 0))], [(0, 5, 8, 15, 1), (0, 5, 11, 33, 2), (0, 5, 14, 13, 0)])
/-- WasmCore.invoke(I)V -/
def M_100 : xM := ("WasmCore", ⟨"WasmCore", "invoke", "(I)V"⟩, prog_1_method_9_code, 2, none, [
  (0, (.aload_n 0, 0, 0)),
  (1, (.getfield 49, 0, 6)),
  (4, (.ifCond .eq 11, 0, 15)),
  (7, (.aload_n 0, 0, 0)),
  (8, (.getfield 49, 0, 6)),
  (11, (.iconst 2, 0, 0)),
  (12, (.if_icmp .ne 13, 0, 25)),
  (15, (.new 72, 0, 101)),
  (18, (.dup, 0, 0)),
  (25, (.aload_n 0, 0, 0)),
  (26, (.getfield 13, 0, 0)),
  (29, (.iload_n 1, 0, 0)),
  (30, (.invokevirtual 129, 0, 17362)),
  (33, (.ifCond .ne 13, 0, 46)),
  (36, (.new 132, 0, 102)),
  (39, (.dup, 0, 0)),
  (46, (.aload_n 0, 0, 0)),
  (47, (.getfield 45, 0, 5)),
  (50, (.aload_n 0, 0, 0)),
  (51, (.getfield 13, 0, 0)),
  (54, (.getfield 137, 0, 68)),
  (57, (.iload_n 1, 0, 0)),
  (58, (.iaload, 0, 0)),
  (59, (.if_icmp .eq 13, 0, 72)),
  (62, (.new 61, 0, 100)),
  (65, (.dup, 0, 0)),
  (72, (.aload_n 0, 0, 0)),
  (73, (.getfield 37, 0, 3)),
  (76, (.iload_n 1, 0, 0)),
  (77, (.aload_n 0, 0, 0)),
  (78, (.getfield 41, 0, 4)),
  (81, (.invokevirtual 142, 0, 65619)),
  (84, (.aload_n 0, 0, 0)),
  (85, (.iconst 0, 0, 0)),
  (86, (.putfield 45, 0, 5)),
  (89, (.aload_n 0, 0, 0)),
  (90, (.iconst 2, 0, 0)),
  (91, (.putfield 49, 0, 6)),
  (94, (.return_, 0, 0))], [])
/-- WasmCore$Machine.begin(I[I)V -/
def M_101 : xM := ("WasmCore$Machine", ⟨"WasmCore$Machine", "begin", "(I[I)V"⟩, prog_4_method_3_code, 3, none, [
  (0, (.aload_n 0, 0, 0)),
  (1, (.iconst 0, 0, 0)),
  (2, (.putfield 30, 0, 263)),
  (5, (.aload_n 0, 0, 0)),
  (6, (.aload_n 0, 0, 0)),
  (7, (.getfield 45, 0, 256)),
  (10, (.getfield 59, 0, 68)),
  (13, (.iload_n 1, 0, 0)),
  (14, (.iaload, 0, 0)),
  (15, (.putfield 20, 0, 260)),
  (18, (.aload_n 2, 0, 0)),
  (19, (.iconst 0, 0, 0)),
  (20, (.aload_n 0, 0, 0)),
  (21, (.getfield 17, 0, 259)),
  (24, (.iconst 0, 0, 0)),
  (25, (.aload_n 0, 0, 0)),
  (26, (.getfield 20, 0, 260)),
  (29, (.invokestatic 62, 0, 14421)),
  (32, (.aload_n 0, 0, 0)),
  (33, (.iload_n 1, 0, 0)),
  (34, (.invokevirtual 68, 0, 64434)),
  (37, (.pop, 0, 0)),
  (38, (.return_, 0, 0))], [])
/-- WasmCoreLaw.result(LWasmCore;[J)I -/
def M_102 : xM := ("WasmCoreLaw", ⟨"WasmCoreLaw", "result", "(LWasmCore;[J)I"⟩, method_8_code, 3, (some .int), [
  (0, (.aload_n 1, 0, 0)),
  (1, (.iconst 0, 0, 0)),
  (2, (.aload_n 0, 0, 0)),
  (3, (.invokevirtual 35, 0, 1649)),
  (6, (.i2l, 0, 0)),
  (7, (.lastore, 0, 0)),
  (8, (.goto 6, 0, 14)),
  (11, (.astore_n 2, 0, 0)),
  (12, (.iconst 1, 0, 0)),
  (13, (.ireturn, 0, 0)),
  (14, (.iconst 0, 0, 0)),
  (15, (.ireturn, 0, 0))], [(0, 8, 11, 15, 1)])
/-- WasmCore.result()I -/
def M_103 : xM := ("WasmCore", ⟨"WasmCore", "result", "()I"⟩, prog_1_method_12_code, 1, (some .int), [
  (0, (.aload_n 0, 0, 0)),
  (1, (.getfield 49, 0, 6)),
  (4, (.iconst 3, 0, 0)),
  (5, (.if_icmp .eq 13, 0, 18)),
  (8, (.new 72, 0, 101)),
  (11, (.dup, 0, 0)),
  (18, (.aload_n 0, 0, 0)),
  (19, (.getfield 37, 0, 3)),
  (22, (.getfield 154, 0, 262)),
  (25, (.ireturn, 0, 0))], [])
/-- WasmCoreLaw.value(LWasmCore;II[J)I -/
def M_104 : xM := ("WasmCoreLaw", ⟨"WasmCoreLaw", "value", "(LWasmCore;II[J)I"⟩, method_9_code, 5, (some .int), [
  (0, (.aload_n 3, 0, 0)),
  (1, (.iconst 0, 0, 0)),
  (2, (.aload_n 0, 0, 0)),
  (3, (.iload_n 1, 0, 0)),
  (4, (.iload_n 2, 0, 0)),
  (5, (.invokevirtual 38, 0, 1683)),
  (8, (.i2l, 0, 0)),
  (9, (.lastore, 0, 0)),
  (10, (.goto 7, 0, 17)),
  (13, (.astore 4, 0, 0)),
  (15, (.iconst 1, 0, 0)),
  (16, (.ireturn, 0, 0)),
  (17, (.iconst 0, 0, 0)),
  (18, (.ireturn, 0, 0))], [(0, 10, 13, 33, 2)])
/-- WasmCore.value(II)I -/
def M_105 : xM := ("WasmCore", ⟨"WasmCore", "value", "(II)I"⟩, prog_1_method_14_code, 3, (some .int), [
  (0, (.iload_n 2, 0, 0)),
  (1, (.ifCond .lt 12, 0, 13)),
  (4, (.iload_n 2, 0, 0)),
  (5, (.aload_n 0, 0, 0)),
  (6, (.iload_n 1, 0, 0)),
  (7, (.invokevirtual 169, 0, 1698)),
  (10, (.if_icmp .lt 13, 0, 23)),
  (13, (.new 132, 0, 102)),
  (16, (.dup, 0, 0)),
  (23, (.iload_n 1, 0, 0)),
  (24, (.ifCond .ne 13, 0, 37)),
  (27, (.aload_n 0, 0, 0)),
  (28, (.getfield 37, 0, 3)),
  (31, (.getfield 175, 0, 259)),
  (34, (.iload_n 2, 0, 0)),
  (35, (.iaload, 0, 0)),
  (36, (.ireturn, 0, 0)),
  (37, (.iload_n 1, 0, 0)),
  (38, (.iconst 1, 0, 0)),
  (39, (.if_icmp .ne 14, 0, 53)),
  (42, (.aload_n 0, 0, 0)),
  (43, (.getfield 37, 0, 3)),
  (46, (.iload_n 2, 0, 0)),
  (47, (.invokevirtual 178, 0, 65730)),
  (50, (.goto 12, 0, 62)),
  (53, (.aload_n 0, 0, 0)),
  (54, (.getfield 37, 0, 3)),
  (57, (.getfield 181, 0, 258)),
  (60, (.iload_n 2, 0, 0)),
  (61, (.iaload, 0, 0)),
  (62, (.ireturn, 0, 0))], [])
/-- WasmCore.countOf(I)I -/
def M_106 : xM := ("WasmCore", ⟨"WasmCore", "countOf", "(I)I"⟩, prog_1_method_17_code, 2, (some .int), [
  (0, (.iload_n 1, 0, 0)),
  (1, (.iconst 2, 0, 0)),
  (2, (.if_icmp .ne 12, 0, 14)),
  (5, (.aload_n 0, 0, 0)),
  (6, (.getfield 37, 0, 3)),
  (9, (.getfield 181, 0, 258)),
  (12, (.arraylength, 0, 0)),
  (13, (.ireturn, 0, 0)),
  (14, (.aload_n 0, 0, 0)),
  (15, (.getfield 49, 0, 6)),
  (18, (.iconst 2, 0, 0)),
  (19, (.if_icmp .eq 5, 0, 24)),
  (22, (.iconst 0, 0, 0)),
  (23, (.ireturn, 0, 0)),
  (24, (.iload_n 1, 0, 0)),
  (25, (.ifCond .ne 11, 0, 36)),
  (28, (.aload_n 0, 0, 0)),
  (29, (.getfield 37, 0, 3)),
  (32, (.getfield 160, 0, 260)),
  (35, (.ireturn, 0, 0)),
  (36, (.iload_n 1, 0, 0)),
  (37, (.iconst 1, 0, 0)),
  (38, (.if_icmp .ne 13, 0, 51)),
  (41, (.aload_n 0, 0, 0)),
  (42, (.getfield 37, 0, 3)),
  (45, (.invokevirtual 196, 0, 65713)),
  (48, (.goto 4, 0, 52)),
  (51, (.iconst 0, 0, 0)),
  (52, (.ireturn, 0, 0))], [])
/-- WasmCore$Machine.localCount()I -/
def M_107 : xM := ("WasmCore$Machine", ⟨"WasmCore$Machine", "localCount", "()I"⟩, prog_4_method_4_code, 1, (some .int), [
  (0, (.aload_n 0, 0, 0)),
  (1, (.getfield 45, 0, 256)),
  (4, (.getfield 72, 0, 69)),
  (7, (.aload_n 0, 0, 0)),
  (8, (.getfield 33, 0, 264)),
  (11, (.aload_n 0, 0, 0)),
  (12, (.getfield 30, 0, 263)),
  (15, (.iconst 1, 0, 0)),
  (16, (.isub, 0, 0)),
  (17, (.iaload, 0, 0)),
  (18, (.iaload, 0, 0)),
  (19, (.ireturn, 0, 0))], [])
/-- WasmCore$Machine.localAt(I)I -/
def M_108 : xM := ("WasmCore$Machine", ⟨"WasmCore$Machine", "localAt", "(I)I"⟩, prog_4_method_5_code, 2, (some .int), [
  (0, (.aload_n 0, 0, 0)),
  (1, (.getfield 42, 0, 267)),
  (4, (.aload_n 0, 0, 0)),
  (5, (.iload_n 1, 0, 0)),
  (6, (.invokevirtual 75, 0, 64450)),
  (9, (.iaload, 0, 0)),
  (10, (.ireturn, 0, 0))], [])
/-- WasmCoreModel.<init>()V -/
def M_109 : xM := ("WasmCoreModel", ⟨"WasmCoreModel", "<init>", "()V"⟩, prog_9_method_1_code, 1, none, [
  (0, (.aload_n 0, 0, 0)),
  (1, (.invokespecial 1, 0, 14401)),
  (4, (.aload_n 0, 0, 0)),
  (5, (.sipush 240, 0, 0)),
  (8, (.newarray .int, 0, 0)),
  (10, (.putfield 7, 1, 323)),
  (13, (.aload_n 0, 0, 0)),
  (14, (.bipush 7, 0, 0)),
  (16, (.newarray .int, 0, 0)),
  (18, (.putfield 13, 1, 325)),
  (21, (.aload_n 0, 0, 0)),
  (22, (.bipush 6, 0, 0)),
  (24, (.newarray .int, 0, 0)),
  (26, (.putfield 16, 1, 326)),
  (29, (.aload_n 0, 0, 0)),
  (30, (.bipush 6, 0, 0)),
  (32, (.newarray .int, 0, 0)),
  (34, (.putfield 19, 1, 327)),
  (37, (.aload_n 0, 0, 0)),
  (38, (.bipush 6, 0, 0)),
  (40, (.newarray .int, 0, 0)),
  (42, (.putfield 22, 1, 328)),
  (45, (.aload_n 0, 0, 0)),
  (46, (.iconst (-1), 0, 0)),
  (47, (.putfield 25, 0, 329)),
  (50, (.aload_n 0, 0, 0)),
  (51, (.iconst (-1), 0, 0)),
  (52, (.putfield 29, 0, 330)),
  (55, (.aload_n 0, 0, 0)),
  (56, (.sipush 250, 0, 0)),
  (59, (.newarray .int, 0, 0)),
  (61, (.putfield 32, 1, 332)),
  (64, (.aload_n 0, 0, 0)),
  (65, (.sipush 250, 0, 0)),
  (68, (.newarray .int, 0, 0)),
  (70, (.putfield 35, 1, 333)),
  (73, (.aload_n 0, 0, 0)),
  (74, (.sipush 250, 0, 0)),
  (77, (.newarray .int, 0, 0)),
  (79, (.putfield 38, 1, 334)),
  (82, (.aload_n 0, 0, 0)),
  (83, (.sipush 250, 0, 0)),
  (86, (.newarray .int, 0, 0)),
  (88, (.putfield 41, 1, 335)),
  (91, (.aload_n 0, 0, 0)),
  (92, (.sipush 250, 0, 0)),
  (95, (.newarray .int, 0, 0)),
  (97, (.putfield 44, 1, 336)),
  (100, (.aload_n 0, 0, 0)),
  (101, (.sipush 250, 0, 0)),
  (104, (.newarray .int, 0, 0)),
  (106, (.putfield 47, 1, 337)),
  (109, (.aload_n 0, 0, 0)),
  (110, (.sipush 250, 0, 0)),
  (113, (.newarray .int, 0, 0)),
  (115, (.putfield 50, 1, 338)),
  (118, (.aload_n 0, 0, 0)),
  (119, (.sipush 250, 0, 0)),
  (122, (.newarray .boolean, 0, 0)),
  (124, (.putfield 53, 1, 339)),
  (127, (.aload_n 0, 0, 0)),
  (128, (.sipush 240, 0, 0)),
  (131, (.newarray .int, 0, 0)),
  (133, (.putfield 57, 1, 340)),
  (136, (.aload_n 0, 0, 0)),
  (137, (.sipush 240, 0, 0)),
  (140, (.newarray .int, 0, 0)),
  (142, (.putfield 60, 1, 341)),
  (145, (.aload_n 0, 0, 0)),
  (146, (.sipush 256, 0, 0)),
  (149, (.newarray .int, 0, 0)),
  (151, (.putfield 63, 1, 346)),
  (154, (.aload_n 0, 0, 0)),
  (155, (.iconst 1, 0, 0)),
  (156, (.putfield 66, 0, 347)),
  (159, (.aload_n 0, 0, 0)),
  (160, (.iconst 4, 0, 0)),
  (161, (.newarray .int, 0, 0)),
  (163, (.putfield 69, 1, 348)),
  (166, (.aload_n 0, 0, 0)),
  (167, (.iconst 4, 0, 0)),
  (168, (.newarray .int, 0, 0)),
  (170, (.putfield 72, 1, 350)),
  (173, (.aload_n 0, 0, 0)),
  (174, (.bipush 101, 0, 0)),
  (176, (.newarray .int, 0, 0)),
  (178, (.putfield 75, 1, 354)),
  (181, (.aload_n 0, 0, 0)),
  (182, (.bipush 6, 0, 0)),
  (184, (.newarray .int, 0, 0)),
  (186, (.putfield 78, 1, 356)),
  (189, (.aload_n 0, 0, 0)),
  (190, (.bipush 6, 0, 0)),
  (192, (.newarray .int, 0, 0)),
  (194, (.putfield 81, 1, 357)),
  (197, (.aload_n 0, 0, 0)),
  (198, (.bipush 6, 0, 0)),
  (200, (.newarray .int, 0, 0)),
  (202, (.putfield 84, 1, 358)),
  (205, (.aload_n 0, 0, 0)),
  (206, (.bipush 48, 0, 0)),
  (208, (.newarray .int, 0, 0)),
  (210, (.putfield 87, 1, 359)),
  (213, (.return_, 0, 0))], [])
/-- WasmCoreModel.thrown()I -/
def M_110 : xM := ("WasmCoreModel", ⟨"WasmCoreModel", "thrown", "()I"⟩, prog_9_method_2_code, 1, (some .int), [
  (0, (.aload_n 0, 0, 0)),
  (1, (.getfield 90, 0, 320)),
  (4, (.ireturn, 0, 0))], [])
/-- WasmCoreModel.feed(IJ)I -/
def M_111 : xM := ("WasmCoreModel", ⟨"WasmCoreModel", "feed", "(IJ)I"⟩, prog_9_method_3_code, 5, (some .int), [
  (0, (.aload_n 0, 0, 0)),
  (1, (.iload_n 1, 0, 0)),
  (2, (.iconst 1, 0, 0)),
  (3, (.if_icmp .lt 9, 0, 12)),
  (6, (.iload_n 1, 0, 0)),
  (7, (.bipush 8, 0, 0)),
  (9, (.if_icmp .le 7, 0, 16)),
  (12, (.iconst 1, 0, 0)),
  (13, (.goto 27, 0, 40)),
  (16, (.aload_n 0, 0, 0)),
  (17, (.getfield 93, 0, 321)),
  (20, (.ifCond .ne 15, 0, 35)),
  (23, (.aload_n 0, 0, 0)),
  (24, (.getfield 96, 0, 322)),
  (27, (.iload_n 1, 0, 0)),
  (28, (.iadd, 0, 0)),
  (29, (.sipush 240, 0, 0)),
  (32, (.if_icmp .le 7, 0, 39)),
  (35, (.iconst 2, 0, 0)),
  (36, (.goto 4, 0, 40)),
  (39, (.iconst 0, 0, 0)),
  (40, (.putfield 90, 0, 320)),
  (43, (.aload_n 0, 0, 0)),
  (44, (.getfield 90, 0, 320)),
  (47, (.ifCond .le 5, 0, 52)),
  (50, (.iconst 0, 0, 0)),
  (51, (.ireturn, 0, 0)),
  (52, (.iload_n 1, 0, 0)),
  (53, (.iconst 1, 0, 0)),
  (54, (.isub, 0, 0)),
  (55, (.istore 4, 0, 0)),
  (57, (.iload 4, 0, 0)),
  (59, (.ifCond .lt 40, 0, 99)),
  (62, (.aload_n 0, 0, 0)),
  (63, (.getfield 7, 0, 323)),
  (66, (.aload_n 0, 0, 0)),
  (67, (.getfield 96, 0, 322)),
  (70, (.lload_n 2, 0, 0)),
  (71, (.bipush 8, 0, 0)),
  (73, (.iload 4, 0, 0)),
  (75, (.imul, 0, 0)),
  (76, (.lshr, 0, 0)),
  (77, (.l2i, 0, 0)),
  (78, (.sipush 255, 0, 0)),
  (81, (.iand, 0, 0)),
  (82, (.iastore, 0, 0)),
  (83, (.aload_n 0, 0, 0)),
  (84, (.dup, 0, 0)),
  (85, (.getfield 96, 0, 322)),
  (88, (.iconst 1, 0, 0)),
  (89, (.iadd, 0, 0)),
  (90, (.putfield 96, 0, 322)),
  (93, (.iinc 4 (-1), 0, 0)),
  (96, (.goto (-39), 0, 57)),
  (99, (.aload_n 0, 0, 0)),
  (100, (.getfield 96, 0, 322)),
  (103, (.ireturn, 0, 0))], [])
/-- WasmCoreModel.word(I)I -/
def M_112 : xM := ("WasmCoreModel", ⟨"WasmCoreModel", "word", "(I)I"⟩, prog_9_method_4_code, 2, (some .int), [
  (0, (.aload_n 0, 0, 0)),
  (1, (.aload_n 0, 0, 0)),
  (2, (.getfield 93, 0, 321)),
  (5, (.ifCond .ne 13, 0, 18)),
  (8, (.aload_n 0, 0, 0)),
  (9, (.getfield 96, 0, 322)),
  (12, (.sipush 240, 0, 0)),
  (15, (.if_icmp .ne 7, 0, 22)),
  (18, (.iconst 1, 0, 0)),
  (19, (.goto 4, 0, 23)),
  (22, (.iconst 0, 0, 0)),
  (23, (.putfield 90, 0, 320)),
  (26, (.aload_n 0, 0, 0)),
  (27, (.getfield 90, 0, 320)),
  (30, (.ifCond .le 5, 0, 35)),
  (33, (.iconst 0, 0, 0)),
  (34, (.ireturn, 0, 0)),
  (35, (.aload_n 0, 0, 0)),
  (36, (.getfield 7, 0, 323)),
  (39, (.aload_n 0, 0, 0)),
  (40, (.getfield 96, 0, 322)),
  (43, (.iload_n 1, 0, 0)),
  (44, (.iastore, 0, 0)),
  (45, (.aload_n 0, 0, 0)),
  (46, (.dup, 0, 0)),
  (47, (.getfield 96, 0, 322)),
  (50, (.iconst 1, 0, 0)),
  (51, (.iadd, 0, 0)),
  (52, (.putfield 96, 0, 322)),
  (55, (.aload_n 0, 0, 0)),
  (56, (.getfield 96, 0, 322)),
  (59, (.ireturn, 0, 0))], [])
/-- WasmCoreModel.declare(III)I -/
def M_113 : xM := ("WasmCoreModel", ⟨"WasmCoreModel", "declare", "(III)I"⟩, prog_9_method_5_code, 4, (some .int), [
  (0, (.aload_n 0, 0, 0)),
  (1, (.iload_n 1, 0, 0)),
  (2, (.ifCond .lt 26, 0, 28)),
  (5, (.iload_n 1, 0, 0)),
  (6, (.iconst 4, 0, 0)),
  (7, (.if_icmp .gt 21, 0, 28)),
  (10, (.iload_n 2, 0, 0)),
  (11, (.ifCond .lt 17, 0, 28)),
  (14, (.iload_n 2, 0, 0)),
  (15, (.iconst 4, 0, 0)),
  (16, (.if_icmp .gt 12, 0, 28)),
  (19, (.iload_n 3, 0, 0)),
  (20, (.ifCond .lt 8, 0, 28)),
  (23, (.iload_n 3, 0, 0)),
  (24, (.iconst 1, 0, 0)),
  (25, (.if_icmp .le 7, 0, 32)),
  (28, (.iconst 1, 0, 0)),
  (29, (.goto 40, 0, 69)),
  (32, (.aload_n 0, 0, 0)),
  (33, (.getfield 93, 0, 321)),
  (36, (.ifCond .ne 28, 0, 64)),
  (39, (.aload_n 0, 0, 0)),
  (40, (.getfield 99, 0, 324)),
  (43, (.bipush 6, 0, 0)),
  (45, (.if_icmp .eq 19, 0, 64)),
  (48, (.aload_n 0, 0, 0)),
  (49, (.getfield 13, 0, 325)),
  (52, (.aload_n 0, 0, 0)),
  (53, (.getfield 99, 0, 324)),
  (56, (.iaload, 0, 0)),
  (57, (.aload_n 0, 0, 0)),
  (58, (.getfield 96, 0, 322)),
  (61, (.if_icmp .ne 7, 0, 68)),
  (64, (.iconst 2, 0, 0)),
  (65, (.goto 4, 0, 69)),
  (68, (.iconst 0, 0, 0)),
  (69, (.putfield 90, 0, 320)),
  (72, (.aload_n 0, 0, 0)),
  (73, (.getfield 90, 0, 320)),
  (76, (.ifCond .le 5, 0, 81)),
  (79, (.iconst 0, 0, 0)),
  (80, (.ireturn, 0, 0)),
  (81, (.aload_n 0, 0, 0)),
  (82, (.getfield 16, 0, 326)),
  (85, (.aload_n 0, 0, 0)),
  (86, (.getfield 99, 0, 324)),
  (89, (.iload_n 1, 0, 0)),
  (90, (.iastore, 0, 0)),
  (91, (.aload_n 0, 0, 0)),
  (92, (.getfield 19, 0, 327)),
  (95, (.aload_n 0, 0, 0)),
  (96, (.getfield 99, 0, 324)),
  (99, (.iload_n 2, 0, 0)),
  (100, (.iastore, 0, 0)),
  (101, (.aload_n 0, 0, 0)),
  (102, (.getfield 22, 0, 328)),
  (105, (.aload_n 0, 0, 0)),
  (106, (.getfield 99, 0, 324)),
  (109, (.iload_n 3, 0, 0)),
  (110, (.iastore, 0, 0)),
  (111, (.aload_n 0, 0, 0)),
  (112, (.dup, 0, 0)),
  (113, (.getfield 99, 0, 324)),
  (116, (.iconst 1, 0, 0)),
  (117, (.iadd, 0, 0)),
  (118, (.putfield 99, 0, 324)),
  (121, (.aload_n 0, 0, 0)),
  (122, (.getfield 13, 0, 325)),
  (125, (.aload_n 0, 0, 0)),
  (126, (.getfield 99, 0, 324)),
  (129, (.aload_n 0, 0, 0)),
  (130, (.getfield 96, 0, 322)),
  (133, (.iastore, 0, 0)),
  (134, (.aload_n 0, 0, 0)),
  (135, (.getfield 99, 0, 324)),
  (138, (.iconst 1, 0, 0)),
  (139, (.isub, 0, 0)),
  (140, (.ireturn, 0, 0))], [])
/-- WasmCoreModel.clear()V -/
def M_114 : xM := ("WasmCoreModel", ⟨"WasmCoreModel", "clear", "()V"⟩, prog_9_method_6_code, 2, none, [
  (0, (.aload_n 0, 0, 0)),
  (1, (.iconst 0, 0, 0)),
  (2, (.putfield 90, 0, 320)),
  (5, (.aload_n 0, 0, 0)),
  (6, (.iconst 0, 0, 0)),
  (7, (.putfield 93, 0, 321)),
  (10, (.aload_n 0, 0, 0)),
  (11, (.iconst 0, 0, 0)),
  (12, (.putfield 96, 0, 322)),
  (15, (.aload_n 0, 0, 0)),
  (16, (.iconst 0, 0, 0)),
  (17, (.putfield 99, 0, 324)),
  (20, (.aload_n 0, 0, 0)),
  (21, (.iconst (-1), 0, 0)),
  (22, (.putfield 25, 0, 329)),
  (25, (.aload_n 0, 0, 0)),
  (26, (.iconst (-1), 0, 0)),
  (27, (.putfield 29, 0, 330)),
  (30, (.aload_n 0, 0, 0)),
  (31, (.iconst 1, 0, 0)),
  (32, (.putfield 66, 0, 347)),
  (35, (.aload_n 0, 0, 0)),
  (36, (.iconst 0, 0, 0)),
  (37, (.putfield 102, 0, 349)),
  (40, (.iconst 0, 0, 0)),
  (41, (.istore_n 1, 0, 0)),
  (42, (.iload_n 1, 0, 0)),
  (43, (.sipush 256, 0, 0)),
  (46, (.if_icmp .ge 16, 0, 62)),
  (49, (.aload_n 0, 0, 0)),
  (50, (.getfield 63, 0, 346)),
  (53, (.iload_n 1, 0, 0)),
  (54, (.iconst 0, 0, 0)),
  (55, (.iastore, 0, 0)),
  (56, (.iinc 1 1, 0, 0)),
  (59, (.goto (-17), 0, 42)),
  (62, (.iconst 0, 0, 0)),
  (63, (.istore_n 1, 0, 0)),
  (64, (.iload_n 1, 0, 0)),
  (65, (.iconst 4, 0, 0)),
  (66, (.if_icmp .ge 16, 0, 82)),
  (69, (.aload_n 0, 0, 0)),
  (70, (.getfield 69, 0, 348)),
  (73, (.iload_n 1, 0, 0)),
  (74, (.iconst 0, 0, 0)),
  (75, (.iastore, 0, 0)),
  (76, (.iinc 1 1, 0, 0)),
  (79, (.goto (-15), 0, 64)),
  (82, (.return_, 0, 0))], [])
/-- WasmCoreModel.validate()I -/
def M_115 : xM := ("WasmCoreModel", ⟨"WasmCoreModel", "validate", "()I"⟩, prog_9_method_27_code, 3, (some .int), [
  (0, (.aload_n 0, 0, 0)),
  (1, (.aload_n 0, 0, 0)),
  (2, (.getfield 93, 0, 321)),
  (5, (.ifCond .ne 26, 0, 31)),
  (8, (.aload_n 0, 0, 0)),
  (9, (.getfield 99, 0, 324)),
  (12, (.ifCond .eq 19, 0, 31)),
  (15, (.aload_n 0, 0, 0)),
  (16, (.getfield 13, 0, 325)),
  (19, (.aload_n 0, 0, 0)),
  (20, (.getfield 99, 0, 324)),
  (23, (.iaload, 0, 0)),
  (24, (.aload_n 0, 0, 0)),
  (25, (.getfield 96, 0, 322)),
  (28, (.if_icmp .ge 7, 0, 35)),
  (31, (.iconst 1, 0, 0)),
  (32, (.goto 4, 0, 36)),
  (35, (.iconst 0, 0, 0)),
  (36, (.putfield 90, 0, 320)),
  (39, (.aload_n 0, 0, 0)),
  (40, (.getfield 90, 0, 320)),
  (43, (.ifCond .le 5, 0, 48)),
  (46, (.iconst 0, 0, 0)),
  (47, (.ireturn, 0, 0)),
  (48, (.aload_n 0, 0, 0)),
  (49, (.iconst 0, 0, 0)),
  (50, (.putfield 118, 0, 331)),
  (53, (.aload_n 0, 0, 0)),
  (54, (.iconst 0, 0, 0)),
  (55, (.putfield 105, 0, 345)),
  (58, (.iconst 0, 0, 0)),
  (59, (.istore_n 1, 0, 0)),
  (60, (.iload_n 1, 0, 0)),
  (61, (.aload_n 0, 0, 0)),
  (62, (.getfield 99, 0, 324)),
  (65, (.if_icmp .ge 34, 0, 99)),
  (68, (.aload_n 0, 0, 0)),
  (69, (.iload_n 1, 0, 0)),
  (70, (.invokevirtual 184, 0, 81858)),
  (73, (.istore_n 2, 0, 0)),
  (74, (.iload_n 2, 0, 0)),
  (75, (.ifCond .lt 18, 0, 93)),
  (78, (.aload_n 0, 0, 0)),
  (79, (.iload_n 1, 0, 0)),
  (80, (.putfield 25, 0, 329)),
  (83, (.aload_n 0, 0, 0)),
  (84, (.iload_n 2, 0, 0)),
  (85, (.putfield 29, 0, 330)),
  (88, (.aload_n 0, 0, 0)),
  (89, (.getfield 105, 0, 345)),
  (92, (.ireturn, 0, 0)),
  (93, (.iinc 1 1, 0, 0)),
  (96, (.goto (-36), 0, 60)),
  (99, (.aload_n 0, 0, 0)),
  (100, (.iconst 1, 0, 0)),
  (101, (.putfield 93, 0, 321)),
  (104, (.iconst 0, 0, 0)),
  (105, (.ireturn, 0, 0))], [])
/-- WasmCoreModel.checkFunction(I)I -/
def M_116 : xM := ("WasmCoreModel", ⟨"WasmCoreModel", "checkFunction", "(I)I"⟩, prog_9_method_26_code, 4, (some .int), [
  (0, (.aload_n 0, 0, 0)),
  (1, (.iconst 0, 0, 0)),
  (2, (.putfield 108, 0, 344)),
  (5, (.aload_n 0, 0, 0)),
  (6, (.iconst 0, 0, 0)),
  (7, (.putfield 121, 0, 343)),
  (10, (.aload_n 0, 0, 0)),
  (11, (.iconst (-1), 0, 0)),
  (12, (.putfield 111, 0, 342)),
  (15, (.aload_n 0, 0, 0)),
  (16, (.getfield 13, 0, 325)),
  (19, (.iload_n 1, 0, 0)),
  (20, (.iaload, 0, 0)),
  (21, (.istore_n 2, 0, 0)),
  (22, (.aload_n 0, 0, 0)),
  (23, (.iconst 0, 0, 0)),
  (24, (.aload_n 0, 0, 0)),
  (25, (.getfield 22, 0, 328)),
  (28, (.iload_n 1, 0, 0)),
  (29, (.iaload, 0, 0)),
  (30, (.iload_n 2, 0, 0)),
  (31, (.invokevirtual 155, 0, 81876)),
  (34, (.iload_n 2, 0, 0)),
  (35, (.istore_n 3, 0, 0)),
  (36, (.iload_n 3, 0, 0)),
  (37, (.aload_n 0, 0, 0)),
  (38, (.getfield 13, 0, 325)),
  (41, (.iload_n 1, 0, 0)),
  (42, (.iconst 1, 0, 0)),
  (43, (.iadd, 0, 0)),
  (44, (.iaload, 0, 0)),
  (45, (.if_icmp .ge 53, 0, 98)),
  (48, (.aload_n 0, 0, 0)),
  (49, (.getfield 121, 0, 343)),
  (52, (.ifCond .le 46, 0, 98)),
  (55, (.aload_n 0, 0, 0)),
  (56, (.aload_n 0, 0, 0)),
  (57, (.iload_n 1, 0, 0)),
  (58, (.iload_n 3, 0, 0)),
  (59, (.invokevirtual 175, 0, 81907)),
  (62, (.invokevirtual 114, 0, 81890)),
  (65, (.aload_n 0, 0, 0)),
  (66, (.getfield 105, 0, 345)),
  (69, (.ifCond .ne 9, 0, 78)),
  (72, (.aload_n 0, 0, 0)),
  (73, (.iload_n 1, 0, 0)),
  (74, (.iload_n 3, 0, 0)),
  (75, (.invokevirtual 178, 0, 81987)),
  (78, (.aload_n 0, 0, 0)),
  (79, (.getfield 105, 0, 345)),
  (82, (.ifCond .le 5, 0, 87)),
  (85, (.iload_n 3, 0, 0)),
  (86, (.ireturn, 0, 0)),
  (87, (.iload_n 3, 0, 0)),
  (88, (.aload_n 0, 0, 0)),
  (89, (.iload_n 3, 0, 0)),
  (90, (.invokevirtual 181, 0, 82162)),
  (93, (.iadd, 0, 0)),
  (94, (.istore_n 3, 0, 0)),
  (95, (.goto (-59), 0, 36)),
  (98, (.aload_n 0, 0, 0)),
  (99, (.getfield 121, 0, 343)),
  (102, (.ifCond .le 10, 0, 112)),
  (105, (.aload_n 0, 0, 0)),
  (106, (.iconst 1, 0, 0)),
  (107, (.invokevirtual 114, 0, 81890)),
  (110, (.iload_n 3, 0, 0)),
  (111, (.ireturn, 0, 0)),
  (112, (.iconst (-1), 0, 0)),
  (113, (.ireturn, 0, 0))], [])
/-- WasmCoreModel.open(III)V -/
def M_117 : xM := ("WasmCoreModel", ⟨"WasmCoreModel", "open", "(III)V"⟩, prog_9_method_11_code, 5, none, [
  (0, (.aload_n 0, 0, 0)),
  (1, (.getfield 118, 0, 331)),
  (4, (.istore 4, 0, 0)),
  (6, (.aload_n 0, 0, 0)),
  (7, (.dup, 0, 0)),
  (8, (.getfield 118, 0, 331)),
  (11, (.iconst 1, 0, 0)),
  (12, (.iadd, 0, 0)),
  (13, (.putfield 118, 0, 331)),
  (16, (.aload_n 0, 0, 0)),
  (17, (.getfield 32, 0, 332)),
  (20, (.iload 4, 0, 0)),
  (22, (.iload_n 1, 0, 0)),
  (23, (.iastore, 0, 0)),
  (24, (.aload_n 0, 0, 0)),
  (25, (.getfield 35, 0, 333)),
  (28, (.iload 4, 0, 0)),
  (30, (.iload_n 2, 0, 0)),
  (31, (.iastore, 0, 0)),
  (32, (.aload_n 0, 0, 0)),
  (33, (.getfield 38, 0, 334)),
  (36, (.iload 4, 0, 0)),
  (38, (.aload_n 0, 0, 0)),
  (39, (.getfield 108, 0, 344)),
  (42, (.iastore, 0, 0)),
  (43, (.aload_n 0, 0, 0)),
  (44, (.getfield 41, 0, 335)),
  (47, (.iload 4, 0, 0)),
  (49, (.aload_n 0, 0, 0)),
  (50, (.getfield 111, 0, 342)),
  (53, (.iastore, 0, 0)),
  (54, (.aload_n 0, 0, 0)),
  (55, (.getfield 44, 0, 336)),
  (58, (.iload 4, 0, 0)),
  (60, (.iload_n 3, 0, 0)),
  (61, (.iastore, 0, 0)),
  (62, (.aload_n 0, 0, 0)),
  (63, (.getfield 47, 0, 337)),
  (66, (.iload 4, 0, 0)),
  (68, (.iconst (-1), 0, 0)),
  (69, (.iastore, 0, 0)),
  (70, (.aload_n 0, 0, 0)),
  (71, (.getfield 50, 0, 338)),
  (74, (.iload 4, 0, 0)),
  (76, (.iconst (-1), 0, 0)),
  (77, (.iastore, 0, 0)),
  (78, (.aload_n 0, 0, 0)),
  (79, (.getfield 53, 0, 339)),
  (82, (.iload 4, 0, 0)),
  (84, (.iconst 1, 0, 0)),
  (85, (.bastore, 0, 0)),
  (86, (.aload_n 0, 0, 0)),
  (87, (.getfield 60, 0, 341)),
  (90, (.iload_n 3, 0, 0)),
  (91, (.iload 4, 0, 0)),
  (93, (.iastore, 0, 0)),
  (94, (.aload_n 0, 0, 0)),
  (95, (.iload 4, 0, 0)),
  (97, (.putfield 111, 0, 342)),
  (100, (.aload_n 0, 0, 0)),
  (101, (.dup, 0, 0)),
  (102, (.getfield 121, 0, 343)),
  (105, (.iconst 1, 0, 0)),
  (106, (.iadd, 0, 0)),
  (107, (.putfield 121, 0, 343)),
  (110, (.aload_n 0, 0, 0)),
  (111, (.getfield 121, 0, 343)),
  (114, (.bipush 9, 0, 0)),
  (116, (.if_icmp .le 9, 0, 125)),
  (119, (.aload_n 0, 0, 0)),
  (120, (.bipush 6, 0, 0)),
  (122, (.invokevirtual 114, 0, 81890)),
  (125, (.return_, 0, 0))], [])
/-- WasmCoreModel.fail(I)V -/
def M_118 : xM := ("WasmCoreModel", ⟨"WasmCoreModel", "fail", "(I)V"⟩, prog_9_method_7_code, 2, none, [
  (0, (.aload_n 0, 0, 0)),
  (1, (.aload_n 0, 0, 0)),
  (2, (.getfield 105, 0, 345)),
  (5, (.ifCond .ne 7, 0, 12)),
  (8, (.iload_n 1, 0, 0)),
  (9, (.goto 7, 0, 16)),
  (12, (.aload_n 0, 0, 0)),
  (13, (.getfield 105, 0, 345)),
  (16, (.putfield 105, 0, 345)),
  (19, (.return_, 0, 0))], [])
/-- WasmCoreModel.flaw(II)I -/
def M_119 : xM := ("WasmCoreModel", ⟨"WasmCoreModel", "flaw", "(II)I"⟩, prog_9_method_19_code, 7, (some .int), [
  (0, (.aload_n 0, 0, 0)),
  (1, (.getfield 13, 0, 325)),
  (4, (.iload_n 1, 0, 0)),
  (5, (.iconst 1, 0, 0)),
  (6, (.iadd, 0, 0)),
  (7, (.iaload, 0, 0)),
  (8, (.istore_n 3, 0, 0)),
  (9, (.aload_n 0, 0, 0)),
  (10, (.getfield 7, 0, 323)),
  (13, (.iload_n 2, 0, 0)),
  (14, (.iaload, 0, 0)),
  (15, (.istore 4, 0, 0)),
  (17, (.iload 4, 0, 0)),
  (19, (.invokestatic 128, 0, 1921)),
  (22, (.ifCond .eq 16, 0, 38)),
  (25, (.iload_n 2, 0, 0)),
  (26, (.iconst 1, 0, 0)),
  (27, (.iadd, 0, 0)),
  (28, (.iload 4, 0, 0)),
  (30, (.invokestatic 124, 0, 1937)),
  (33, (.iadd, 0, 0)),
  (34, (.iload_n 3, 0, 0)),
  (35, (.if_icmp .le 5, 0, 40)),
  (38, (.iconst 1, 0, 0)),
  (39, (.ireturn, 0, 0)),
  (40, (.iload 4, 0, 0)),
  (42, (.invokestatic 124, 0, 1937)),
  (45, (.ifCond .le 14, 0, 59)),
  (48, (.aload_n 0, 0, 0)),
  (49, (.getfield 7, 0, 323)),
  (52, (.iload_n 2, 0, 0)),
  (53, (.iconst 1, 0, 0)),
  (54, (.iadd, 0, 0)),
  (55, (.iaload, 0, 0)),
  (56, (.goto 4, 0, 60)),
  (59, (.iconst 0, 0, 0)),
  (60, (.istore 5, 0, 0)),
  (62, (.aload_n 0, 0, 0)),
  (63, (.iload_n 1, 0, 0)),
  (64, (.iload 4, 0, 0)),
  (66, (.iload 5, 0, 0)),
  (68, (.invokevirtual 132, 0, 81956)),
  (71, (.ifCond .ne 5, 0, 76)),
  (74, (.iconst 5, 0, 0)),
  (75, (.ireturn, 0, 0)),
  (76, (.iload 4, 0, 0)),
  (78, (.bipush 14, 0, 0)),
  (80, (.if_icmp .ne 51, 0, 131)),
  (83, (.iload_n 2, 0, 0)),
  (84, (.iconst 3, 0, 0)),
  (85, (.iadd, 0, 0)),
  (86, (.iload 5, 0, 0)),
  (88, (.iadd, 0, 0)),
  (89, (.iload_n 3, 0, 0)),
  (90, (.if_icmp .le 5, 0, 95)),
  (93, (.iconst 1, 0, 0)),
  (94, (.ireturn, 0, 0)),
  (95, (.iconst 0, 0, 0)),
  (96, (.istore 6, 0, 0)),
  (98, (.iload 6, 0, 0)),
  (100, (.iload 5, 0, 0)),
  (102, (.if_icmp .gt 29, 0, 131)),
  (105, (.aload_n 0, 0, 0)),
  (106, (.aload_n 0, 0, 0)),
  (107, (.getfield 7, 0, 323)),
  (110, (.iload_n 2, 0, 0)),
  (111, (.iconst 2, 0, 0)),
  (112, (.iadd, 0, 0)),
  (113, (.iload 6, 0, 0)),
  (115, (.iadd, 0, 0)),
  (116, (.iaload, 0, 0)),
  (117, (.invokevirtual 136, 0, 81970)),
  (120, (.ifCond .ne 5, 0, 125)),
  (123, (.iconst 4, 0, 0)),
  (124, (.ireturn, 0, 0)),
  (125, (.iinc 6 1, 0, 0)),
  (128, (.goto (-30), 0, 98)),
  (131, (.iload 4, 0, 0)),
  (133, (.bipush 12, 0, 0)),
  (135, (.if_icmp .eq 10, 0, 145)),
  (138, (.iload 4, 0, 0)),
  (140, (.bipush 13, 0, 0)),
  (142, (.if_icmp .ne 16, 0, 158)),
  (145, (.aload_n 0, 0, 0)),
  (146, (.iload 5, 0, 0)),
  (148, (.invokevirtual 136, 0, 81970)),
  (151, (.ifCond .ne 7, 0, 158)),
  (154, (.iconst 4, 0, 0)),
  (155, (.goto 4, 0, 159)),
  (158, (.iconst 0, 0, 0)),
  (159, (.ireturn, 0, 0))], [])
/-- WasmCoreModel.isKnown(I)Z -/
def M_120 : xM := ("WasmCoreModel", ⟨"WasmCoreModel", "isKnown", "(I)Z"⟩, prog_9_method_15_code, 1, (some .boolean), [
  (0, (.iload_n 0, 0, 0)),
  (1, (.ifCond .lt 8, 0, 9)),
  (4, (.iload_n 0, 0, 0)),
  (5, (.iconst 5, 0, 0)),
  (6, (.if_icmp .le 111, 0, 117)),
  (9, (.iload_n 0, 0, 0)),
  (10, (.bipush 11, 0, 0)),
  (12, (.if_icmp .lt 9, 0, 21)),
  (15, (.iload_n 0, 0, 0)),
  (16, (.bipush 16, 0, 0)),
  (18, (.if_icmp .le 99, 0, 117)),
  (21, (.iload_n 0, 0, 0)),
  (22, (.bipush 26, 0, 0)),
  (24, (.if_icmp .eq 93, 0, 117)),
  (27, (.iload_n 0, 0, 0)),
  (28, (.bipush 27, 0, 0)),
  (30, (.if_icmp .eq 87, 0, 117)),
  (33, (.iload_n 0, 0, 0)),
  (34, (.bipush 32, 0, 0)),
  (36, (.if_icmp .lt 9, 0, 45)),
  (39, (.iload_n 0, 0, 0)),
  (40, (.bipush 36, 0, 0)),
  (42, (.if_icmp .le 75, 0, 117)),
  (45, (.iload_n 0, 0, 0)),
  (46, (.bipush 40, 0, 0)),
  (48, (.if_icmp .eq 69, 0, 117)),
  (51, (.iload_n 0, 0, 0)),
  (52, (.bipush 44, 0, 0)),
  (54, (.if_icmp .lt 9, 0, 63)),
  (57, (.iload_n 0, 0, 0)),
  (58, (.bipush 47, 0, 0)),
  (60, (.if_icmp .le 57, 0, 117)),
  (63, (.iload_n 0, 0, 0)),
  (64, (.bipush 54, 0, 0)),
  (66, (.if_icmp .eq 51, 0, 117)),
  (69, (.iload_n 0, 0, 0)),
  (70, (.bipush 58, 0, 0)),
  (72, (.if_icmp .eq 45, 0, 117)),
  (75, (.iload_n 0, 0, 0)),
  (76, (.bipush 59, 0, 0)),
  (78, (.if_icmp .eq 39, 0, 117)),
  (81, (.iload_n 0, 0, 0)),
  (82, (.bipush 63, 0, 0)),
  (84, (.if_icmp .lt 9, 0, 93)),
  (87, (.iload_n 0, 0, 0)),
  (88, (.bipush 65, 0, 0)),
  (90, (.if_icmp .le 27, 0, 117)),
  (93, (.iload_n 0, 0, 0)),
  (94, (.bipush 69, 0, 0)),
  (96, (.if_icmp .lt 9, 0, 105)),
  (99, (.iload_n 0, 0, 0)),
  (100, (.bipush 79, 0, 0)),
  (102, (.if_icmp .le 15, 0, 117)),
  (105, (.iload_n 0, 0, 0)),
  (106, (.bipush 103, 0, 0)),
  (108, (.if_icmp .lt 13, 0, 121)),
  (111, (.iload_n 0, 0, 0)),
  (112, (.bipush 120, 0, 0)),
  (114, (.if_icmp .gt 7, 0, 121)),
  (117, (.iconst 1, 0, 0)),
  (118, (.goto 4, 0, 122)),
  (121, (.iconst 0, 0, 0)),
  (122, (.ireturn, 0, 1))], [])
/-- WasmCoreModel.immediates(I)I -/
def M_121 : xM := ("WasmCoreModel", ⟨"WasmCoreModel", "immediates", "(I)I"⟩, prog_9_method_16_code, 1, (some .int), [
  (0, (.iload_n 0, 0, 0)),
  (1, (.iconst 2, 0, 0)),
  (2, (.if_icmp .lt 8, 0, 10)),
  (5, (.iload_n 0, 0, 0)),
  (6, (.iconst 4, 0, 0)),
  (7, (.if_icmp .le 81, 0, 88)),
  (10, (.iload_n 0, 0, 0)),
  (11, (.bipush 12, 0, 0)),
  (13, (.if_icmp .eq 75, 0, 88)),
  (16, (.iload_n 0, 0, 0)),
  (17, (.bipush 13, 0, 0)),
  (19, (.if_icmp .eq 69, 0, 88)),
  (22, (.iload_n 0, 0, 0)),
  (23, (.bipush 14, 0, 0)),
  (25, (.if_icmp .eq 63, 0, 88)),
  (28, (.iload_n 0, 0, 0)),
  (29, (.bipush 16, 0, 0)),
  (31, (.if_icmp .eq 57, 0, 88)),
  (34, (.iload_n 0, 0, 0)),
  (35, (.bipush 32, 0, 0)),
  (37, (.if_icmp .lt 9, 0, 46)),
  (40, (.iload_n 0, 0, 0)),
  (41, (.bipush 36, 0, 0)),
  (43, (.if_icmp .le 45, 0, 88)),
  (46, (.iload_n 0, 0, 0)),
  (47, (.bipush 40, 0, 0)),
  (49, (.if_icmp .eq 39, 0, 88)),
  (52, (.iload_n 0, 0, 0)),
  (53, (.bipush 44, 0, 0)),
  (55, (.if_icmp .lt 9, 0, 64)),
  (58, (.iload_n 0, 0, 0)),
  (59, (.bipush 47, 0, 0)),
  (61, (.if_icmp .le 27, 0, 88)),
  (64, (.iload_n 0, 0, 0)),
  (65, (.bipush 54, 0, 0)),
  (67, (.if_icmp .eq 21, 0, 88)),
  (70, (.iload_n 0, 0, 0)),
  (71, (.bipush 58, 0, 0)),
  (73, (.if_icmp .eq 15, 0, 88)),
  (76, (.iload_n 0, 0, 0)),
  (77, (.bipush 59, 0, 0)),
  (79, (.if_icmp .eq 9, 0, 88)),
  (82, (.iload_n 0, 0, 0)),
  (83, (.bipush 65, 0, 0)),
  (85, (.if_icmp .ne 7, 0, 92)),
  (88, (.iconst 1, 0, 0)),
  (89, (.goto 4, 0, 93)),
  (92, (.iconst 0, 0, 0)),
  (93, (.ireturn, 0, 0))], [])
/-- WasmCoreModel.suits(III)Z -/
def M_122 : xM := ("WasmCoreModel", ⟨"WasmCoreModel", "suits", "(III)Z"⟩, prog_9_method_18_code, 4, (some .boolean), [
  (0, (.iload_n 2, 0, 0)),
  (1, (.iconst 2, 0, 0)),
  (2, (.if_icmp .lt 23, 0, 25)),
  (5, (.iload_n 2, 0, 0)),
  (6, (.iconst 4, 0, 0)),
  (7, (.if_icmp .gt 18, 0, 25)),
  (10, (.iload_n 3, 0, 0)),
  (11, (.ifCond .eq 8, 0, 19)),
  (14, (.iload_n 3, 0, 0)),
  (15, (.iconst 1, 0, 0)),
  (16, (.if_icmp .ne 7, 0, 23)),
  (19, (.iconst 1, 0, 0)),
  (20, (.goto 4, 0, 24)),
  (23, (.iconst 0, 0, 0)),
  (24, (.ireturn, 0, 1)),
  (25, (.iload_n 2, 0, 0)),
  (26, (.bipush 14, 0, 0)),
  (28, (.if_icmp .ne 19, 0, 47)),
  (31, (.iload_n 3, 0, 0)),
  (32, (.ifCond .lt 13, 0, 45)),
  (35, (.iload_n 3, 0, 0)),
  (36, (.bipush 8, 0, 0)),
  (38, (.if_icmp .gt 7, 0, 45)),
  (41, (.iconst 1, 0, 0)),
  (42, (.goto 4, 0, 46)),
  (45, (.iconst 0, 0, 0)),
  (46, (.ireturn, 0, 1)),
  (47, (.iload_n 2, 0, 0)),
  (48, (.bipush 16, 0, 0)),
  (50, (.if_icmp .ne 21, 0, 71)),
  (53, (.iload_n 3, 0, 0)),
  (54, (.ifCond .lt 15, 0, 69)),
  (57, (.iload_n 3, 0, 0)),
  (58, (.aload_n 0, 0, 0)),
  (59, (.getfield 99, 0, 324)),
  (62, (.if_icmp .ge 7, 0, 69)),
  (65, (.iconst 1, 0, 0)),
  (66, (.goto 4, 0, 70)),
  (69, (.iconst 0, 0, 0)),
  (70, (.ireturn, 0, 1)),
  (71, (.iload_n 2, 0, 0)),
  (72, (.bipush 32, 0, 0)),
  (74, (.if_icmp .lt 36, 0, 110)),
  (77, (.iload_n 2, 0, 0)),
  (78, (.bipush 34, 0, 0)),
  (80, (.if_icmp .gt 30, 0, 110)),
  (83, (.iload_n 3, 0, 0)),
  (84, (.ifCond .lt 24, 0, 108)),
  (87, (.iload_n 3, 0, 0)),
  (88, (.aload_n 0, 0, 0)),
  (89, (.getfield 16, 0, 326)),
  (92, (.iload_n 1, 0, 0)),
  (93, (.iaload, 0, 0)),
  (94, (.aload_n 0, 0, 0)),
  (95, (.getfield 19, 0, 327)),
  (98, (.iload_n 1, 0, 0)),
  (99, (.iaload, 0, 0)),
  (100, (.iadd, 0, 0)),
  (101, (.if_icmp .ge 7, 0, 108)),
  (104, (.iconst 1, 0, 0)),
  (105, (.goto 4, 0, 109)),
  (108, (.iconst 0, 0, 0)),
  (109, (.ireturn, 0, 1)),
  (110, (.iload_n 2, 0, 0)),
  (111, (.bipush 35, 0, 0)),
  (113, (.if_icmp .eq 9, 0, 122)),
  (116, (.iload_n 2, 0, 0)),
  (117, (.bipush 36, 0, 0)),
  (119, (.if_icmp .ne 18, 0, 137)),
  (122, (.iload_n 3, 0, 0)),
  (123, (.ifCond .lt 12, 0, 135)),
  (126, (.iload_n 3, 0, 0)),
  (127, (.iconst 4, 0, 0)),
  (128, (.if_icmp .ge 7, 0, 135)),
  (131, (.iconst 1, 0, 0)),
  (132, (.goto 4, 0, 136)),
  (135, (.iconst 0, 0, 0)),
  (136, (.ireturn, 0, 1)),
  (137, (.iload_n 2, 0, 0)),
  (138, (.bipush 40, 0, 0)),
  (140, (.if_icmp .lt 13, 0, 153)),
  (143, (.iload_n 2, 0, 0)),
  (144, (.bipush 59, 0, 0)),
  (146, (.if_icmp .gt 7, 0, 153)),
  (149, (.iload_n 3, 0, 0)),
  (150, (.ifCond .lt 7, 0, 157)),
  (153, (.iconst 1, 0, 0)),
  (154, (.goto 4, 0, 158)),
  (157, (.iconst 0, 0, 0)),
  (158, (.ireturn, 0, 1))], [])
/-- WasmCoreModel.isLabel(I)Z -/
def M_123 : xM := ("WasmCoreModel", ⟨"WasmCoreModel", "isLabel", "(I)Z"⟩, prog_9_method_14_code, 2, (some .boolean), [
  (0, (.iload_n 1, 0, 0)),
  (1, (.ifCond .lt 15, 0, 16)),
  (4, (.iload_n 1, 0, 0)),
  (5, (.aload_n 0, 0, 0)),
  (6, (.getfield 121, 0, 343)),
  (9, (.if_icmp .ge 7, 0, 16)),
  (12, (.iconst 1, 0, 0)),
  (13, (.goto 4, 0, 17)),
  (16, (.iconst 0, 0, 0)),
  (17, (.ireturn, 0, 1))], [])
/-- WasmCoreModel.check(II)V -/
def M_124 : xM := ("WasmCoreModel", ⟨"WasmCoreModel", "check", "(II)V"⟩, prog_9_method_25_code, 6, none, [
  (0, (.aload_n 0, 0, 0)),
  (1, (.getfield 7, 0, 323)),
  (4, (.iload_n 2, 0, 0)),
  (5, (.iaload, 0, 0)),
  (6, (.istore_n 3, 0, 0)),
  (7, (.iload_n 3, 0, 0)),
  (8, (.invokestatic 124, 0, 1937)),
  (11, (.ifCond .le 14, 0, 25)),
  (14, (.aload_n 0, 0, 0)),
  (15, (.getfield 7, 0, 323)),
  (18, (.iload_n 2, 0, 0)),
  (19, (.iconst 1, 0, 0)),
  (20, (.iadd, 0, 0)),
  (21, (.iaload, 0, 0)),
  (22, (.goto 4, 0, 26)),
  (25, (.iconst 0, 0, 0)),
  (26, (.istore 4, 0, 0)),
  (28, (.aload_n 0, 0, 0)),
  (29, (.getfield 57, 0, 340)),
  (32, (.iload_n 2, 0, 0)),
  (33, (.aload_n 0, 0, 0)),
  (34, (.getfield 111, 0, 342)),
  (37, (.iastore, 0, 0)),
  (38, (.iload_n 3, 0, 0)),
  (39, (.iconst 4, 0, 0)),
  (40, (.if_icmp .ne 8, 0, 48)),
  (43, (.aload_n 0, 0, 0)),
  (44, (.iconst 1, 0, 0)),
  (45, (.invokevirtual 139, 0, 82002)),
  (48, (.iload_n 3, 0, 0)),
  (49, (.iconst 2, 0, 0)),
  (50, (.if_icmp .lt 19, 0, 69)),
  (53, (.iload_n 3, 0, 0)),
  (54, (.iconst 4, 0, 0)),
  (55, (.if_icmp .gt 14, 0, 69)),
  (58, (.aload_n 0, 0, 0)),
  (59, (.iload_n 3, 0, 0)),
  (60, (.iload 4, 0, 0)),
  (62, (.iload_n 2, 0, 0)),
  (63, (.invokevirtual 155, 0, 81876)),
  (66, (.goto 199, 0, 265)),
  (69, (.iload_n 3, 0, 0)),
  (70, (.iconst 5, 0, 0)),
  (71, (.if_icmp .ne 11, 0, 82)),
  (74, (.aload_n 0, 0, 0)),
  (75, (.iload_n 2, 0, 0)),
  (76, (.invokevirtual 159, 0, 82018)),
  (79, (.goto 186, 0, 265)),
  (82, (.iload_n 3, 0, 0)),
  (83, (.bipush 11, 0, 0)),
  (85, (.if_icmp .ne 12, 0, 97)),
  (88, (.aload_n 0, 0, 0)),
  (89, (.iload_n 1, 0, 0)),
  (90, (.iload_n 2, 0, 0)),
  (91, (.invokevirtual 162, 0, 82035)),
  (94, (.goto 171, 0, 265)),
  (97, (.iload_n 3, 0, 0)),
  (98, (.bipush 12, 0, 0)),
  (100, (.if_icmp .ne 28, 0, 128)),
  (103, (.aload_n 0, 0, 0)),
  (104, (.aload_n 0, 0, 0)),
  (105, (.aload_n 0, 0, 0)),
  (106, (.aload_n 0, 0, 0)),
  (107, (.getfield 111, 0, 342)),
  (110, (.iload 4, 0, 0)),
  (112, (.invokevirtual 145, 0, 82067)),
  (115, (.invokevirtual 149, 0, 82082)),
  (118, (.invokevirtual 139, 0, 82002)),
  (121, (.aload_n 0, 0, 0)),
  (122, (.invokevirtual 152, 0, 82097)),
  (125, (.goto 140, 0, 265)),
  (128, (.iload_n 3, 0, 0)),
  (129, (.bipush 13, 0, 0)),
  (131, (.if_icmp .ne 39, 0, 170)),
  (134, (.aload_n 0, 0, 0)),
  (135, (.aload_n 0, 0, 0)),
  (136, (.aload_n 0, 0, 0)),
  (137, (.getfield 111, 0, 342)),
  (140, (.iload 4, 0, 0)),
  (142, (.invokevirtual 145, 0, 82067)),
  (145, (.invokevirtual 149, 0, 82082)),
  (148, (.istore 5, 0, 0)),
  (150, (.aload_n 0, 0, 0)),
  (151, (.iconst 1, 0, 0)),
  (152, (.invokevirtual 139, 0, 82002)),
  (155, (.aload_n 0, 0, 0)),
  (156, (.iload 5, 0, 0)),
  (158, (.invokevirtual 139, 0, 82002)),
  (161, (.aload_n 0, 0, 0)),
  (162, (.iload 5, 0, 0)),
  (164, (.invokevirtual 142, 0, 82050)),
  (167, (.goto 98, 0, 265)),
  (170, (.iload_n 3, 0, 0)),
  (171, (.bipush 14, 0, 0)),
  (173, (.if_icmp .ne 11, 0, 184)),
  (176, (.aload_n 0, 0, 0)),
  (177, (.iload_n 2, 0, 0)),
  (178, (.invokevirtual 166, 0, 82114)),
  (181, (.goto 84, 0, 265)),
  (184, (.iload_n 3, 0, 0)),
  (185, (.bipush 15, 0, 0)),
  (187, (.if_icmp .ne 20, 0, 207)),
  (190, (.aload_n 0, 0, 0)),
  (191, (.aload_n 0, 0, 0)),
  (192, (.getfield 22, 0, 328)),
  (195, (.iload_n 1, 0, 0)),
  (196, (.iaload, 0, 0)),
  (197, (.invokevirtual 139, 0, 82002)),
  (200, (.aload_n 0, 0, 0)),
  (201, (.invokevirtual 152, 0, 82097)),
  (204, (.goto 61, 0, 265)),
  (207, (.iload_n 3, 0, 0)),
  (208, (.ifCond .ne 10, 0, 218)),
  (211, (.aload_n 0, 0, 0)),
  (212, (.invokevirtual 152, 0, 82097)),
  (215, (.goto 50, 0, 265)),
  (218, (.iload_n 3, 0, 0)),
  (219, (.bipush 16, 0, 0)),
  (221, (.if_icmp .ne 28, 0, 249)),
  (224, (.aload_n 0, 0, 0)),
  (225, (.aload_n 0, 0, 0)),
  (226, (.getfield 16, 0, 326)),
  (229, (.iload 4, 0, 0)),
  (231, (.iaload, 0, 0)),
  (232, (.invokevirtual 139, 0, 82002)),
  (235, (.aload_n 0, 0, 0)),
  (236, (.aload_n 0, 0, 0)),
  (237, (.getfield 22, 0, 328)),
  (240, (.iload 4, 0, 0)),
  (242, (.iaload, 0, 0)),
  (243, (.invokevirtual 142, 0, 82050)),
  (246, (.goto 19, 0, 265)),
  (249, (.aload_n 0, 0, 0)),
  (250, (.iload_n 3, 0, 0)),
  (251, (.invokestatic 169, 0, 2129)),
  (254, (.invokevirtual 139, 0, 82002)),
  (257, (.aload_n 0, 0, 0)),
  (258, (.iload_n 3, 0, 0)),
  (259, (.invokestatic 172, 0, 2145)),
  (262, (.invokevirtual 142, 0, 82050)),
  (265, (.return_, 0, 0))], [])
/-- WasmCoreModel.pop(I)V -/
def M_125 : xM := ("WasmCoreModel", ⟨"WasmCoreModel", "pop", "(I)V"⟩, prog_9_method_8_code, 3, none, [
  (0, (.iconst 0, 0, 0)),
  (1, (.istore_n 2, 0, 0)),
  (2, (.iload_n 2, 0, 0)),
  (3, (.iload_n 1, 0, 0)),
  (4, (.if_icmp .ge 55, 0, 59)),
  (7, (.aload_n 0, 0, 0)),
  (8, (.getfield 108, 0, 344)),
  (11, (.aload_n 0, 0, 0)),
  (12, (.getfield 38, 0, 334)),
  (15, (.aload_n 0, 0, 0)),
  (16, (.getfield 111, 0, 342)),
  (19, (.iaload, 0, 0)),
  (20, (.if_icmp .le 16, 0, 36)),
  (23, (.aload_n 0, 0, 0)),
  (24, (.dup, 0, 0)),
  (25, (.getfield 108, 0, 344)),
  (28, (.iconst 1, 0, 0)),
  (29, (.isub, 0, 0)),
  (30, (.putfield 108, 0, 344)),
  (33, (.goto 20, 0, 53)),
  (36, (.aload_n 0, 0, 0)),
  (37, (.getfield 53, 0, 339)),
  (40, (.aload_n 0, 0, 0)),
  (41, (.getfield 111, 0, 342)),
  (44, (.baload, 0, 0)),
  (45, (.ifCond .eq 8, 0, 53)),
  (48, (.aload_n 0, 0, 0)),
  (49, (.iconst 2, 0, 0)),
  (50, (.invokevirtual 114, 0, 81890)),
  (53, (.iinc 2 1, 0, 0)),
  (56, (.goto (-54), 0, 2)),
  (59, (.return_, 0, 0))], [])
/-- WasmCoreModel.checkElse(I)V -/
def M_126 : xM := ("WasmCoreModel", ⟨"WasmCoreModel", "checkElse", "(I)V"⟩, prog_9_method_22_code, 2, none, [
  (0, (.aload_n 0, 0, 0)),
  (1, (.getfield 32, 0, 332)),
  (4, (.aload_n 0, 0, 0)),
  (5, (.getfield 111, 0, 342)),
  (8, (.iaload, 0, 0)),
  (9, (.iconst 4, 0, 0)),
  (10, (.if_icmp .eq 9, 0, 19)),
  (13, (.aload_n 0, 0, 0)),
  (14, (.iconst 3, 0, 0)),
  (15, (.invokevirtual 114, 0, 81890)),
  (18, (.return_, 0, 0)),
  (19, (.aload_n 0, 0, 0)),
  (20, (.aload_n 0, 0, 0)),
  (21, (.getfield 35, 0, 333)),
  (24, (.aload_n 0, 0, 0)),
  (25, (.getfield 111, 0, 342)),
  (28, (.iaload, 0, 0)),
  (29, (.invokevirtual 139, 0, 82002)),
  (32, (.aload_n 0, 0, 0)),
  (33, (.getfield 108, 0, 344)),
  (36, (.aload_n 0, 0, 0)),
  (37, (.getfield 38, 0, 334)),
  (40, (.aload_n 0, 0, 0)),
  (41, (.getfield 111, 0, 342)),
  (44, (.iaload, 0, 0)),
  (45, (.if_icmp .eq 8, 0, 53)),
  (48, (.aload_n 0, 0, 0)),
  (49, (.iconst 3, 0, 0)),
  (50, (.invokevirtual 114, 0, 81890)),
  (53, (.aload_n 0, 0, 0)),
  (54, (.getfield 32, 0, 332)),
  (57, (.aload_n 0, 0, 0)),
  (58, (.getfield 111, 0, 342)),
  (61, (.iconst 5, 0, 0)),
  (62, (.iastore, 0, 0)),
  (63, (.aload_n 0, 0, 0)),
  (64, (.getfield 47, 0, 337)),
  (67, (.aload_n 0, 0, 0)),
  (68, (.getfield 111, 0, 342)),
  (71, (.iload_n 1, 0, 0)),
  (72, (.iastore, 0, 0)),
  (73, (.aload_n 0, 0, 0)),
  (74, (.getfield 53, 0, 339)),
  (77, (.aload_n 0, 0, 0)),
  (78, (.getfield 111, 0, 342)),
  (81, (.iconst 1, 0, 0)),
  (82, (.bastore, 0, 0)),
  (83, (.return_, 0, 0))], [])
/-- WasmCoreModel.checkEnd(II)V -/
def M_127 : xM := ("WasmCoreModel", ⟨"WasmCoreModel", "checkEnd", "(II)V"⟩, prog_9_method_23_code, 4, none, [
  (0, (.aload_n 0, 0, 0)),
  (1, (.getfield 111, 0, 342)),
  (4, (.istore_n 3, 0, 0)),
  (5, (.aload_n 0, 0, 0)),
  (6, (.aload_n 0, 0, 0)),
  (7, (.getfield 35, 0, 333)),
  (10, (.iload_n 3, 0, 0)),
  (11, (.iaload, 0, 0)),
  (12, (.invokevirtual 139, 0, 82002)),
  (15, (.aload_n 0, 0, 0)),
  (16, (.getfield 108, 0, 344)),
  (19, (.aload_n 0, 0, 0)),
  (20, (.getfield 38, 0, 334)),
  (23, (.iload_n 3, 0, 0)),
  (24, (.iaload, 0, 0)),
  (25, (.if_icmp .ne 22, 0, 47)),
  (28, (.aload_n 0, 0, 0)),
  (29, (.getfield 32, 0, 332)),
  (32, (.iload_n 3, 0, 0)),
  (33, (.iaload, 0, 0)),
  (34, (.iconst 4, 0, 0)),
  (35, (.if_icmp .ne 17, 0, 52)),
  (38, (.aload_n 0, 0, 0)),
  (39, (.getfield 35, 0, 333)),
  (42, (.iload_n 3, 0, 0)),
  (43, (.iaload, 0, 0)),
  (44, (.ifCond .le 8, 0, 52)),
  (47, (.aload_n 0, 0, 0)),
  (48, (.iconst 3, 0, 0)),
  (49, (.invokevirtual 114, 0, 81890)),
  (52, (.aload_n 0, 0, 0)),
  (53, (.getfield 50, 0, 338)),
  (56, (.iload_n 3, 0, 0)),
  (57, (.iload_n 2, 0, 0)),
  (58, (.iastore, 0, 0)),
  (59, (.aload_n 0, 0, 0)),
  (60, (.dup, 0, 0)),
  (61, (.getfield 121, 0, 343)),
  (64, (.iconst 1, 0, 0)),
  (65, (.isub, 0, 0)),
  (66, (.putfield 121, 0, 343)),
  (69, (.aload_n 0, 0, 0)),
  (70, (.aload_n 0, 0, 0)),
  (71, (.getfield 41, 0, 335)),
  (74, (.iload_n 3, 0, 0)),
  (75, (.iaload, 0, 0)),
  (76, (.putfield 111, 0, 342)),
  (79, (.aload_n 0, 0, 0)),
  (80, (.getfield 121, 0, 343)),
  (83, (.ifCond .le 16, 0, 99)),
  (86, (.aload_n 0, 0, 0)),
  (87, (.aload_n 0, 0, 0)),
  (88, (.getfield 35, 0, 333)),
  (91, (.iload_n 3, 0, 0)),
  (92, (.iaload, 0, 0)),
  (93, (.invokevirtual 142, 0, 82050)),
  (96, (.goto 23, 0, 119)),
  (99, (.iload_n 2, 0, 0)),
  (100, (.iconst 1, 0, 0)),
  (101, (.iadd, 0, 0)),
  (102, (.aload_n 0, 0, 0)),
  (103, (.getfield 13, 0, 325)),
  (106, (.iload_n 1, 0, 0)),
  (107, (.iconst 1, 0, 0)),
  (108, (.iadd, 0, 0)),
  (109, (.iaload, 0, 0)),
  (110, (.if_icmp .ge 9, 0, 119)),
  (113, (.aload_n 0, 0, 0)),
  (114, (.bipush 7, 0, 0)),
  (116, (.invokevirtual 114, 0, 81890)),
  (119, (.return_, 0, 0))], [])
/-- WasmCoreModel.push(I)V -/
def M_128 : xM := ("WasmCoreModel", ⟨"WasmCoreModel", "push", "(I)V"⟩, prog_9_method_9_code, 2, none, [
  (0, (.aload_n 0, 0, 0)),
  (1, (.dup, 0, 0)),
  (2, (.getfield 108, 0, 344)),
  (5, (.iload_n 1, 0, 0)),
  (6, (.iadd, 0, 0)),
  (7, (.putfield 108, 0, 344)),
  (10, (.aload_n 0, 0, 0)),
  (11, (.getfield 108, 0, 344)),
  (14, (.bipush 20, 0, 0)),
  (16, (.if_icmp .le 9, 0, 25)),
  (19, (.aload_n 0, 0, 0)),
  (20, (.bipush 6, 0, 0)),
  (22, (.invokevirtual 114, 0, 81890)),
  (25, (.return_, 0, 0))], [])
/-- WasmCoreModel.outer(II)I -/
def M_129 : xM := ("WasmCoreModel", ⟨"WasmCoreModel", "outer", "(II)I"⟩, prog_9_method_12_code, 5, (some .int), [
  (0, (.iload_n 1, 0, 0)),
  (1, (.istore_n 3, 0, 0)),
  (2, (.iconst 0, 0, 0)),
  (3, (.istore 4, 0, 0)),
  (5, (.iload 4, 0, 0)),
  (7, (.iload_n 2, 0, 0)),
  (8, (.if_icmp .ge 23, 0, 31)),
  (11, (.iload 4, 0, 0)),
  (13, (.bipush 10, 0, 0)),
  (15, (.if_icmp .ge 16, 0, 31)),
  (18, (.aload_n 0, 0, 0)),
  (19, (.getfield 41, 0, 335)),
  (22, (.iload_n 3, 0, 0)),
  (23, (.iaload, 0, 0)),
  (24, (.istore_n 3, 0, 0)),
  (25, (.iinc 4 1, 0, 0)),
  (28, (.goto (-23), 0, 5)),
  (31, (.iload_n 3, 0, 0)),
  (32, (.ireturn, 0, 0))], [])
/-- WasmCoreModel.takes(I)I -/
def M_130 : xM := ("WasmCoreModel", ⟨"WasmCoreModel", "takes", "(I)I"⟩, prog_9_method_13_code, 2, (some .int), [
  (0, (.aload_n 0, 0, 0)),
  (1, (.getfield 32, 0, 332)),
  (4, (.iload_n 1, 0, 0)),
  (5, (.iaload, 0, 0)),
  (6, (.iconst 3, 0, 0)),
  (7, (.if_icmp .ne 7, 0, 14)),
  (10, (.iconst 0, 0, 0)),
  (11, (.goto 9, 0, 20)),
  (14, (.aload_n 0, 0, 0)),
  (15, (.getfield 35, 0, 333)),
  (18, (.iload_n 1, 0, 0)),
  (19, (.iaload, 0, 0)),
  (20, (.ireturn, 0, 0))], [])
/-- WasmCoreModel.leave()V -/
def M_131 : xM := ("WasmCoreModel", ⟨"WasmCoreModel", "leave", "()V"⟩, prog_9_method_10_code, 1, none, [
  (0, (.aload_n 0, 0, 0)),
  (1, (.aload_n 0, 0, 0)),
  (2, (.getfield 38, 0, 334)),
  (5, (.aload_n 0, 0, 0)),
  (6, (.getfield 111, 0, 342)),
  (9, (.iaload, 0, 0)),
  (10, (.putfield 108, 0, 344)),
  (13, (.aload_n 0, 0, 0)),
  (14, (.getfield 53, 0, 339)),
  (17, (.aload_n 0, 0, 0)),
  (18, (.getfield 111, 0, 342)),
  (21, (.iconst 0, 0, 0)),
  (22, (.bastore, 0, 0)),
  (23, (.return_, 0, 0))], [])
/-- WasmCoreModel.checkTable(I)V -/
def M_132 : xM := ("WasmCoreModel", ⟨"WasmCoreModel", "checkTable", "(I)V"⟩, prog_9_method_24_code, 5, none, [
  (0, (.aload_n 0, 0, 0)),
  (1, (.getfield 7, 0, 323)),
  (4, (.iload_n 1, 0, 0)),
  (5, (.iconst 1, 0, 0)),
  (6, (.iadd, 0, 0)),
  (7, (.iaload, 0, 0)),
  (8, (.istore_n 2, 0, 0)),
  (9, (.aload_n 0, 0, 0)),
  (10, (.aload_n 0, 0, 0)),
  (11, (.aload_n 0, 0, 0)),
  (12, (.getfield 111, 0, 342)),
  (15, (.aload_n 0, 0, 0)),
  (16, (.getfield 7, 0, 323)),
  (19, (.iload_n 1, 0, 0)),
  (20, (.iconst 2, 0, 0)),
  (21, (.iadd, 0, 0)),
  (22, (.iaload, 0, 0)),
  (23, (.invokevirtual 145, 0, 82067)),
  (26, (.invokevirtual 149, 0, 82082)),
  (29, (.istore_n 3, 0, 0)),
  (30, (.iconst 1, 0, 0)),
  (31, (.istore 4, 0, 0)),
  (33, (.iload 4, 0, 0)),
  (35, (.iload_n 2, 0, 0)),
  (36, (.if_icmp .gt 41, 0, 77)),
  (39, (.aload_n 0, 0, 0)),
  (40, (.aload_n 0, 0, 0)),
  (41, (.aload_n 0, 0, 0)),
  (42, (.getfield 111, 0, 342)),
  (45, (.aload_n 0, 0, 0)),
  (46, (.getfield 7, 0, 323)),
  (49, (.iload_n 1, 0, 0)),
  (50, (.iconst 2, 0, 0)),
  (51, (.iadd, 0, 0)),
  (52, (.iload 4, 0, 0)),
  (54, (.iadd, 0, 0)),
  (55, (.iaload, 0, 0)),
  (56, (.invokevirtual 145, 0, 82067)),
  (59, (.invokevirtual 149, 0, 82082)),
  (62, (.iload_n 3, 0, 0)),
  (63, (.if_icmp .eq 8, 0, 71)),
  (66, (.aload_n 0, 0, 0)),
  (67, (.iconst 3, 0, 0)),
  (68, (.invokevirtual 114, 0, 81890)),
  (71, (.iinc 4 1, 0, 0)),
  (74, (.goto (-41), 0, 33)),
  (77, (.aload_n 0, 0, 0)),
  (78, (.iconst 1, 0, 0)),
  (79, (.invokevirtual 139, 0, 82002)),
  (82, (.aload_n 0, 0, 0)),
  (83, (.iload_n 3, 0, 0)),
  (84, (.invokevirtual 139, 0, 82002)),
  (87, (.aload_n 0, 0, 0)),
  (88, (.invokevirtual 152, 0, 82097)),
  (91, (.return_, 0, 0))], [])
/-- WasmCoreModel.eats(I)I -/
def M_133 : xM := ("WasmCoreModel", ⟨"WasmCoreModel", "eats", "(I)I"⟩, prog_9_method_20_code, 1, (some .int), [
  (0, (.iload_n 0, 0, 0)),
  (1, (.bipush 27, 0, 0)),
  (3, (.if_icmp .ne 7, 0, 10)),
  (6, (.iconst 3, 0, 0)),
  (7, (.goto 77, 0, 84)),
  (10, (.iload_n 0, 0, 0)),
  (11, (.bipush 54, 0, 0)),
  (13, (.if_icmp .eq 33, 0, 46)),
  (16, (.iload_n 0, 0, 0)),
  (17, (.bipush 58, 0, 0)),
  (19, (.if_icmp .eq 27, 0, 46)),
  (22, (.iload_n 0, 0, 0)),
  (23, (.bipush 59, 0, 0)),
  (25, (.if_icmp .eq 21, 0, 46)),
  (28, (.iload_n 0, 0, 0)),
  (29, (.bipush 70, 0, 0)),
  (31, (.if_icmp .lt 9, 0, 40)),
  (34, (.iload_n 0, 0, 0)),
  (35, (.bipush 79, 0, 0)),
  (37, (.if_icmp .le 9, 0, 46)),
  (40, (.iload_n 0, 0, 0)),
  (41, (.bipush 106, 0, 0)),
  (43, (.if_icmp .lt 7, 0, 50)),
  (46, (.iconst 2, 0, 0)),
  (47, (.goto 37, 0, 84)),
  (50, (.iload_n 0, 0, 0)),
  (51, (.iconst 1, 0, 0)),
  (52, (.if_icmp .eq 27, 0, 79)),
  (55, (.iload_n 0, 0, 0)),
  (56, (.bipush 32, 0, 0)),
  (58, (.if_icmp .eq 21, 0, 79)),
  (61, (.iload_n 0, 0, 0)),
  (62, (.bipush 35, 0, 0)),
  (64, (.if_icmp .eq 15, 0, 79)),
  (67, (.iload_n 0, 0, 0)),
  (68, (.bipush 63, 0, 0)),
  (70, (.if_icmp .eq 9, 0, 79)),
  (73, (.iload_n 0, 0, 0)),
  (74, (.bipush 65, 0, 0)),
  (76, (.if_icmp .ne 7, 0, 83)),
  (79, (.iconst 0, 0, 0)),
  (80, (.goto 4, 0, 84)),
  (83, (.iconst 1, 0, 0)),
  (84, (.ireturn, 0, 0))], [])
/-- WasmCoreModel.yields(I)I -/
def M_134 : xM := ("WasmCoreModel", ⟨"WasmCoreModel", "yields", "(I)I"⟩, prog_9_method_21_code, 1, (some .int), [
  (0, (.iload_n 0, 0, 0)),
  (1, (.iconst 1, 0, 0)),
  (2, (.if_icmp .eq 39, 0, 41)),
  (5, (.iload_n 0, 0, 0)),
  (6, (.bipush 26, 0, 0)),
  (8, (.if_icmp .eq 33, 0, 41)),
  (11, (.iload_n 0, 0, 0)),
  (12, (.bipush 33, 0, 0)),
  (14, (.if_icmp .eq 27, 0, 41)),
  (17, (.iload_n 0, 0, 0)),
  (18, (.bipush 36, 0, 0)),
  (20, (.if_icmp .eq 21, 0, 41)),
  (23, (.iload_n 0, 0, 0)),
  (24, (.bipush 54, 0, 0)),
  (26, (.if_icmp .eq 15, 0, 41)),
  (29, (.iload_n 0, 0, 0)),
  (30, (.bipush 58, 0, 0)),
  (32, (.if_icmp .eq 9, 0, 41)),
  (35, (.iload_n 0, 0, 0)),
  (36, (.bipush 59, 0, 0)),
  (38, (.if_icmp .ne 7, 0, 45)),
  (41, (.iconst 0, 0, 0)),
  (42, (.goto 4, 0, 46)),
  (45, (.iconst 1, 0, 0)),
  (46, (.ireturn, 0, 0))], [])
/-- WasmCoreModel.length(I)I -/
def M_135 : xM := ("WasmCoreModel", ⟨"WasmCoreModel", "length", "(I)I"⟩, prog_9_method_17_code, 2, (some .int), [
  (0, (.aload_n 0, 0, 0)),
  (1, (.getfield 7, 0, 323)),
  (4, (.iload_n 1, 0, 0)),
  (5, (.iaload, 0, 0)),
  (6, (.bipush 14, 0, 0)),
  (8, (.if_icmp .ne 16, 0, 24)),
  (11, (.iconst 3, 0, 0)),
  (12, (.aload_n 0, 0, 0)),
  (13, (.getfield 7, 0, 323)),
  (16, (.iload_n 1, 0, 0)),
  (17, (.iconst 1, 0, 0)),
  (18, (.iadd, 0, 0)),
  (19, (.iaload, 0, 0)),
  (20, (.iadd, 0, 0)),
  (21, (.goto 14, 0, 35)),
  (24, (.iconst 1, 0, 0)),
  (25, (.aload_n 0, 0, 0)),
  (26, (.getfield 7, 0, 323)),
  (29, (.iload_n 1, 0, 0)),
  (30, (.iaload, 0, 0)),
  (31, (.invokestatic 124, 0, 1937)),
  (34, (.iadd, 0, 0)),
  (35, (.ireturn, 0, 0))], [])
/-- WasmCoreModel.fault(I)I -/
def M_136 : xM := ("WasmCoreModel", ⟨"WasmCoreModel", "fault", "(I)I"⟩, prog_9_method_28_code, 2, (some .int), [
  (0, (.aload_n 0, 0, 0)),
  (1, (.iconst 0, 0, 0)),
  (2, (.putfield 90, 0, 320)),
  (5, (.iload_n 1, 0, 0)),
  (6, (.ifCond .ne 10, 0, 16)),
  (9, (.aload_n 0, 0, 0)),
  (10, (.getfield 25, 0, 329)),
  (13, (.goto 16, 0, 29)),
  (16, (.iload_n 1, 0, 0)),
  (17, (.iconst 1, 0, 0)),
  (18, (.if_icmp .ne 10, 0, 28)),
  (21, (.aload_n 0, 0, 0)),
  (22, (.getfield 29, 0, 330)),
  (25, (.goto 4, 0, 29)),
  (28, (.iconst (-1), 0, 0)),
  (29, (.ireturn, 0, 0))], [])
/-- WasmCoreModel.argument(I)I -/
def M_137 : xM := ("WasmCoreModel", ⟨"WasmCoreModel", "argument", "(I)I"⟩, prog_9_method_29_code, 2, (some .int), [
  (0, (.aload_n 0, 0, 0)),
  (1, (.iconst 0, 0, 0)),
  (2, (.putfield 90, 0, 320)),
  (5, (.aload_n 0, 0, 0)),
  (6, (.getfield 102, 0, 349)),
  (9, (.iconst 4, 0, 0)),
  (10, (.if_icmp .ne 5, 0, 15)),
  (13, (.iconst (-1), 0, 0)),
  (14, (.ireturn, 0, 0)),
  (15, (.aload_n 0, 0, 0)),
  (16, (.getfield 72, 0, 350)),
  (19, (.aload_n 0, 0, 0)),
  (20, (.getfield 102, 0, 349)),
  (23, (.iload_n 1, 0, 0)),
  (24, (.iastore, 0, 0)),
  (25, (.aload_n 0, 0, 0)),
  (26, (.dup, 0, 0)),
  (27, (.getfield 102, 0, 349)),
  (30, (.iconst 1, 0, 0)),
  (31, (.iadd, 0, 0)),
  (32, (.putfield 102, 0, 349)),
  (35, (.aload_n 0, 0, 0)),
  (36, (.getfield 102, 0, 349)),
  (39, (.ireturn, 0, 0))], [])
/-- WasmCoreModel.invoke(I)V -/
def M_138 : xM := ("WasmCoreModel", ⟨"WasmCoreModel", "invoke", "(I)V"⟩, prog_9_method_31_code, 3, none, [
  (0, (.aload_n 0, 0, 0)),
  (1, (.aload_n 0, 0, 0)),
  (2, (.getfield 93, 0, 321)),
  (5, (.ifCond .eq 11, 0, 16)),
  (8, (.aload_n 0, 0, 0)),
  (9, (.getfield 93, 0, 321)),
  (12, (.iconst 2, 0, 0)),
  (13, (.if_icmp .ne 7, 0, 20)),
  (16, (.iconst 1, 0, 0)),
  (17, (.goto 20, 0, 37)),
  (20, (.iload_n 1, 0, 0)),
  (21, (.ifCond .lt 11, 0, 32)),
  (24, (.iload_n 1, 0, 0)),
  (25, (.aload_n 0, 0, 0)),
  (26, (.getfield 99, 0, 324)),
  (29, (.if_icmp .lt 7, 0, 36)),
  (32, (.iconst 2, 0, 0)),
  (33, (.goto 4, 0, 37)),
  (36, (.iconst 0, 0, 0)),
  (37, (.putfield 90, 0, 320)),
  (40, (.aload_n 0, 0, 0)),
  (41, (.getfield 90, 0, 320)),
  (44, (.ifCond .le 4, 0, 48)),
  (47, (.return_, 0, 0)),
  (48, (.aload_n 0, 0, 0)),
  (49, (.getfield 102, 0, 349)),
  (52, (.aload_n 0, 0, 0)),
  (53, (.getfield 16, 0, 326)),
  (56, (.iload_n 1, 0, 0)),
  (57, (.iaload, 0, 0)),
  (58, (.if_icmp .eq 9, 0, 67)),
  (61, (.aload_n 0, 0, 0)),
  (62, (.iconst 3, 0, 0)),
  (63, (.putfield 90, 0, 320)),
  (66, (.return_, 0, 0)),
  (67, (.aload_n 0, 0, 0)),
  (68, (.iconst 2, 0, 0)),
  (69, (.putfield 93, 0, 321)),
  (72, (.aload_n 0, 0, 0)),
  (73, (.iconst 0, 0, 0)),
  (74, (.putfield 196, 0, 351)),
  (77, (.aload_n 0, 0, 0)),
  (78, (.iconst 0, 0, 0)),
  (79, (.putfield 187, 0, 355)),
  (82, (.aload_n 0, 0, 0)),
  (83, (.aload_n 0, 0, 0)),
  (84, (.getfield 102, 0, 349)),
  (87, (.putfield 190, 0, 353)),
  (90, (.iconst 0, 0, 0)),
  (91, (.istore_n 2, 0, 0)),
  (92, (.iload_n 2, 0, 0)),
  (93, (.aload_n 0, 0, 0)),
  (94, (.getfield 102, 0, 349)),
  (97, (.if_icmp .ge 21, 0, 118)),
  (100, (.aload_n 0, 0, 0)),
  (101, (.getfield 75, 0, 354)),
  (104, (.iload_n 2, 0, 0)),
  (105, (.aload_n 0, 0, 0)),
  (106, (.getfield 72, 0, 350)),
  (109, (.iload_n 2, 0, 0)),
  (110, (.iaload, 0, 0)),
  (111, (.iastore, 0, 0)),
  (112, (.iinc 2 1, 0, 0)),
  (115, (.goto (-23), 0, 92)),
  (118, (.aload_n 0, 0, 0)),
  (119, (.iconst 0, 0, 0)),
  (120, (.putfield 102, 0, 349)),
  (123, (.aload_n 0, 0, 0)),
  (124, (.iload_n 1, 0, 0)),
  (125, (.iconst (-1), 0, 0)),
  (126, (.invokevirtual 199, 0, 82227)),
  (129, (.return_, 0, 0))], [])
/-- WasmCoreModel.enter(II)V -/
def M_139 : xM := ("WasmCoreModel", ⟨"WasmCoreModel", "enter", "(II)V"⟩, prog_9_method_30_code, 5, none, [
  (0, (.aload_n 0, 0, 0)),
  (1, (.getfield 187, 0, 355)),
  (4, (.istore_n 3, 0, 0)),
  (5, (.aload_n 0, 0, 0)),
  (6, (.dup, 0, 0)),
  (7, (.getfield 187, 0, 355)),
  (10, (.iconst 1, 0, 0)),
  (11, (.iadd, 0, 0)),
  (12, (.putfield 187, 0, 355)),
  (15, (.aload_n 0, 0, 0)),
  (16, (.getfield 78, 0, 356)),
  (19, (.iload_n 3, 0, 0)),
  (20, (.iload_n 1, 0, 0)),
  (21, (.iastore, 0, 0)),
  (22, (.aload_n 0, 0, 0)),
  (23, (.getfield 81, 0, 357)),
  (26, (.iload_n 3, 0, 0)),
  (27, (.iload_n 2, 0, 0)),
  (28, (.iastore, 0, 0)),
  (29, (.aload_n 0, 0, 0)),
  (30, (.dup, 0, 0)),
  (31, (.getfield 190, 0, 353)),
  (34, (.aload_n 0, 0, 0)),
  (35, (.getfield 16, 0, 326)),
  (38, (.iload_n 1, 0, 0)),
  (39, (.iaload, 0, 0)),
  (40, (.isub, 0, 0)),
  (41, (.putfield 190, 0, 353)),
  (44, (.iconst 0, 0, 0)),
  (45, (.istore 4, 0, 0)),
  (47, (.iload 4, 0, 0)),
  (49, (.bipush 8, 0, 0)),
  (51, (.if_icmp .ge 48, 0, 99)),
  (54, (.aload_n 0, 0, 0)),
  (55, (.getfield 87, 0, 359)),
  (58, (.bipush 8, 0, 0)),
  (60, (.iload_n 3, 0, 0)),
  (61, (.imul, 0, 0)),
  (62, (.iload 4, 0, 0)),
  (64, (.iadd, 0, 0)),
  (65, (.iload 4, 0, 0)),
  (67, (.aload_n 0, 0, 0)),
  (68, (.getfield 16, 0, 326)),
  (71, (.iload_n 1, 0, 0)),
  (72, (.iaload, 0, 0)),
  (73, (.if_icmp .ge 18, 0, 91)),
  (76, (.aload_n 0, 0, 0)),
  (77, (.getfield 75, 0, 354)),
  (80, (.aload_n 0, 0, 0)),
  (81, (.getfield 190, 0, 353)),
  (84, (.iload 4, 0, 0)),
  (86, (.iadd, 0, 0)),
  (87, (.iaload, 0, 0)),
  (88, (.goto 4, 0, 92)),
  (91, (.iconst 0, 0, 0)),
  (92, (.iastore, 0, 0)),
  (93, (.iinc 4 1, 0, 0)),
  (96, (.goto (-49), 0, 47)),
  (99, (.aload_n 0, 0, 0)),
  (100, (.getfield 84, 0, 358)),
  (103, (.iload_n 3, 0, 0)),
  (104, (.aload_n 0, 0, 0)),
  (105, (.getfield 190, 0, 353)),
  (108, (.iastore, 0, 0)),
  (109, (.aload_n 0, 0, 0)),
  (110, (.aload_n 0, 0, 0)),
  (111, (.getfield 13, 0, 325)),
  (114, (.iload_n 1, 0, 0)),
  (115, (.iaload, 0, 0)),
  (116, (.putfield 193, 0, 352)),
  (119, (.return_, 0, 0))], [])
/-- WasmCoreModel.run(I)I -/
def M_140 : xM := ("WasmCoreModel", ⟨"WasmCoreModel", "run", "(I)I"⟩, prog_9_method_54_code, 3, (some .int), [
  (0, (.aload_n 0, 0, 0)),
  (1, (.iconst 0, 0, 0)),
  (2, (.putfield 90, 0, 320)),
  (5, (.iload_n 1, 0, 0)),
  (6, (.ifCond .lt 10, 0, 16)),
  (9, (.iload_n 1, 0, 0)),
  (10, (.sipush 500, 0, 0)),
  (13, (.if_icmp .le 5, 0, 18)),
  (16, (.iconst (-1), 0, 0)),
  (17, (.ireturn, 0, 0)),
  (18, (.iconst 0, 0, 0)),
  (19, (.istore_n 2, 0, 0)),
  (20, (.iload_n 2, 0, 0)),
  (21, (.iload_n 1, 0, 0)),
  (22, (.if_icmp .ge 21, 0, 43)),
  (25, (.aload_n 0, 0, 0)),
  (26, (.getfield 93, 0, 321)),
  (29, (.iconst 2, 0, 0)),
  (30, (.if_icmp .ne 13, 0, 43)),
  (33, (.aload_n 0, 0, 0)),
  (34, (.invokevirtual 273, 0, 82257)),
  (37, (.iinc 2 1, 0, 0)),
  (40, (.goto (-20), 0, 20)),
  (43, (.iload_n 2, 0, 0)),
  (44, (.ireturn, 0, 0))], [])
/-- WasmCoreModel.step()V -/
def M_141 : xM := ("WasmCoreModel", ⟨"WasmCoreModel", "step", "()V"⟩, prog_9_method_53_code, 3, none, [
  (0, (.aload_n 0, 0, 0)),
  (1, (.getfield 7, 0, 323)),
  (4, (.aload_n 0, 0, 0)),
  (5, (.getfield 193, 0, 352)),
  (8, (.iaload, 0, 0)),
  (9, (.istore_n 1, 0, 0)),
  (10, (.aload_n 0, 0, 0)),
  (11, (.aload_n 0, 0, 0)),
  (12, (.iload_n 1, 0, 0)),
  (13, (.invokevirtual 264, 0, 82274)),
  (16, (.putfield 196, 0, 351)),
  (19, (.aload_n 0, 0, 0)),
  (20, (.getfield 196, 0, 351)),
  (23, (.ifCond .le 9, 0, 32)),
  (26, (.aload_n 0, 0, 0)),
  (27, (.iconst 4, 0, 0)),
  (28, (.putfield 93, 0, 321)),
  (31, (.return_, 0, 0)),
  (32, (.iload_n 1, 0, 0)),
  (33, (.invokestatic 124, 0, 1937)),
  (36, (.ifCond .le 17, 0, 53)),
  (39, (.aload_n 0, 0, 0)),
  (40, (.getfield 7, 0, 323)),
  (43, (.aload_n 0, 0, 0)),
  (44, (.getfield 193, 0, 352)),
  (47, (.iconst 1, 0, 0)),
  (48, (.iadd, 0, 0)),
  (49, (.iaload, 0, 0)),
  (50, (.goto 4, 0, 54)),
  (53, (.iconst 0, 0, 0)),
  (54, (.istore_n 2, 0, 0)),
  (55, (.iload_n 1, 0, 0)),
  (56, (.iconst 1, 0, 0)),
  (57, (.if_icmp .le 18, 0, 75)),
  (60, (.iload_n 1, 0, 0)),
  (61, (.bipush 17, 0, 0)),
  (63, (.if_icmp .ge 12, 0, 75)),
  (66, (.aload_n 0, 0, 0)),
  (67, (.iload_n 1, 0, 0)),
  (68, (.iload_n 2, 0, 0)),
  (69, (.invokevirtual 267, 0, 82355)),
  (72, (.goto 9, 0, 81)),
  (75, (.aload_n 0, 0, 0)),
  (76, (.iload_n 1, 0, 0)),
  (77, (.iload_n 2, 0, 0)),
  (78, (.invokevirtual 270, 0, 82435)),
  (81, (.return_, 0, 0))], [])
/-- WasmCoreModel.trapOf(I)I -/
def M_142 : xM := ("WasmCoreModel", ⟨"WasmCoreModel", "trapOf", "(I)I"⟩, prog_9_method_45_code, 5, (some .int), [
  (0, (.aload_n 0, 0, 0)),
  (1, (.getfield 190, 0, 353)),
  (4, (.ifCond .le 17, 0, 21)),
  (7, (.aload_n 0, 0, 0)),
  (8, (.getfield 75, 0, 354)),
  (11, (.aload_n 0, 0, 0)),
  (12, (.getfield 190, 0, 353)),
  (15, (.iconst 1, 0, 0)),
  (16, (.isub, 0, 0)),
  (17, (.iaload, 0, 0)),
  (18, (.goto 4, 0, 22)),
  (21, (.iconst 0, 0, 0)),
  (22, (.istore_n 2, 0, 0)),
  (23, (.aload_n 0, 0, 0)),
  (24, (.getfield 190, 0, 353)),
  (27, (.iconst 1, 0, 0)),
  (28, (.if_icmp .le 17, 0, 45)),
  (31, (.aload_n 0, 0, 0)),
  (32, (.getfield 75, 0, 354)),
  (35, (.aload_n 0, 0, 0)),
  (36, (.getfield 190, 0, 353)),
  (39, (.iconst 2, 0, 0)),
  (40, (.isub, 0, 0)),
  (41, (.iaload, 0, 0)),
  (42, (.goto 4, 0, 46)),
  (45, (.iconst 0, 0, 0)),
  (46, (.istore_n 3, 0, 0)),
  (47, (.iload_n 1, 0, 0)),
  (48, (.ifCond .ne 5, 0, 53)),
  (51, (.iconst 1, 0, 0)),
  (52, (.ireturn, 0, 0)),
  (53, (.iload_n 1, 0, 0)),
  (54, (.bipush 109, 0, 0)),
  (56, (.if_icmp .lt 40, 0, 96)),
  (59, (.iload_n 1, 0, 0)),
  (60, (.bipush 112, 0, 0)),
  (62, (.if_icmp .gt 34, 0, 96)),
  (65, (.iload_n 2, 0, 0)),
  (66, (.ifCond .ne 7, 0, 73)),
  (69, (.iconst 2, 0, 0)),
  (70, (.goto 25, 0, 95)),
  (73, (.iload_n 1, 0, 0)),
  (74, (.bipush 109, 0, 0)),
  (76, (.if_icmp .ne 18, 0, 94)),
  (79, (.iload_n 2, 0, 0)),
  (80, (.iconst (-1), 0, 0)),
  (81, (.if_icmp .ne 13, 0, 94)),
  (84, (.iload_n 3, 0, 0)),
  (85, (.ldc 211, 0, 2147483648)),
  (87, (.if_icmp .ne 7, 0, 94)),
  (90, (.iconst 3, 0, 0)),
  (91, (.goto 4, 0, 95)),
  (94, (.iconst 0, 0, 0)),
  (95, (.ireturn, 0, 0)),
  (96, (.iload_n 1, 0, 0)),
  (97, (.invokestatic 221, 0, 2289)),
  (100, (.ifCond .ne 10, 0, 110)),
  (103, (.iload_n 1, 0, 0)),
  (104, (.invokestatic 224, 0, 2305)),
  (107, (.ifCond .eq 29, 0, 136)),
  (110, (.aload_n 0, 0, 0)),
  (111, (.iload_n 1, 0, 0)),
  (112, (.invokestatic 221, 0, 2289)),
  (115, (.ifCond .eq 7, 0, 122)),
  (118, (.iload_n 2, 0, 0)),
  (119, (.goto 4, 0, 123)),
  (122, (.iload_n 3, 0, 0)),
  (123, (.iload_n 1, 0, 0)),
  (124, (.invokevirtual 227, 0, 82323)),
  (127, (.ifCond .ge 7, 0, 134)),
  (130, (.iconst 4, 0, 0)),
  (131, (.goto 4, 0, 135)),
  (134, (.iconst 0, 0, 0)),
  (135, (.ireturn, 0, 0)),
  (136, (.iload_n 1, 0, 0)),
  (137, (.bipush 32, 0, 0)),
  (139, (.if_icmp .eq 21, 0, 160)),
  (142, (.iload_n 1, 0, 0)),
  (143, (.bipush 35, 0, 0)),
  (145, (.if_icmp .eq 15, 0, 160)),
  (148, (.iload_n 1, 0, 0)),
  (149, (.bipush 63, 0, 0)),
  (151, (.if_icmp .eq 9, 0, 160)),
  (154, (.iload_n 1, 0, 0)),
  (155, (.bipush 65, 0, 0)),
  (157, (.if_icmp .ne 7, 0, 164)),
  (160, (.iconst 1, 0, 0)),
  (161, (.goto 4, 0, 165)),
  (164, (.iconst 0, 0, 0)),
  (165, (.istore 4, 0, 0)),
  (167, (.iload 4, 0, 0)),
  (169, (.ifCond .eq 16, 0, 185)),
  (172, (.aload_n 0, 0, 0)),
  (173, (.getfield 190, 0, 353)),
  (176, (.bipush 100, 0, 0)),
  (178, (.if_icmp .ne 7, 0, 185)),
  (181, (.iconst 5, 0, 0)),
  (182, (.goto 24, 0, 206)),
  (185, (.iload_n 1, 0, 0)),
  (186, (.bipush 16, 0, 0)),
  (188, (.if_icmp .ne 17, 0, 205)),
  (191, (.aload_n 0, 0, 0)),
  (192, (.getfield 187, 0, 355)),
  (195, (.bipush 6, 0, 0)),
  (197, (.if_icmp .ne 8, 0, 205)),
  (200, (.bipush 6, 0, 0)),
  (202, (.goto 4, 0, 206)),
  (205, (.iconst 0, 0, 0)),
  (206, (.ireturn, 0, 0))], [])
/-- WasmCoreModel.isLoad(I)Z -/
def M_143 : xM := ("WasmCoreModel", ⟨"WasmCoreModel", "isLoad", "(I)Z"⟩, prog_9_method_41_code, 1, (some .boolean), [
  (0, (.iload_n 0, 0, 0)),
  (1, (.bipush 40, 0, 0)),
  (3, (.if_icmp .eq 15, 0, 18)),
  (6, (.iload_n 0, 0, 0)),
  (7, (.bipush 44, 0, 0)),
  (9, (.if_icmp .lt 13, 0, 22)),
  (12, (.iload_n 0, 0, 0)),
  (13, (.bipush 47, 0, 0)),
  (15, (.if_icmp .gt 7, 0, 22)),
  (18, (.iconst 1, 0, 0)),
  (19, (.goto 4, 0, 23)),
  (22, (.iconst 0, 0, 0)),
  (23, (.ireturn, 0, 1))], [])
/-- WasmCoreModel.isStore(I)Z -/
def M_144 : xM := ("WasmCoreModel", ⟨"WasmCoreModel", "isStore", "(I)Z"⟩, prog_9_method_42_code, 1, (some .boolean), [
  (0, (.iload_n 0, 0, 0)),
  (1, (.bipush 54, 0, 0)),
  (3, (.if_icmp .eq 15, 0, 18)),
  (6, (.iload_n 0, 0, 0)),
  (7, (.bipush 58, 0, 0)),
  (9, (.if_icmp .eq 9, 0, 18)),
  (12, (.iload_n 0, 0, 0)),
  (13, (.bipush 59, 0, 0)),
  (15, (.if_icmp .ne 7, 0, 22)),
  (18, (.iconst 1, 0, 0)),
  (19, (.goto 4, 0, 23)),
  (22, (.iconst 0, 0, 0)),
  (23, (.ireturn, 0, 1))], [])
/-- WasmCoreModel.place(II)I -/
def M_145 : xM := ("WasmCoreModel", ⟨"WasmCoreModel", "place", "(II)I"⟩, prog_9_method_43_code, 5, (some .int), [
  (0, (.iload_n 1, 0, 0)),
  (1, (.i2l, 0, 0)),
  (2, (.ldc2_w 216, 0, 4294967295)),
  (5, (.land, 0, 0)),
  (6, (.aload_n 0, 0, 0)),
  (7, (.getfield 7, 0, 323)),
  (10, (.aload_n 0, 0, 0)),
  (11, (.getfield 193, 0, 352)),
  (14, (.iconst 1, 0, 0)),
  (15, (.iadd, 0, 0)),
  (16, (.iaload, 0, 0)),
  (17, (.i2l, 0, 0)),
  (18, (.ladd, 0, 0)),
  (19, (.lstore_n 3, 0, 0)),
  (20, (.lload_n 3, 0, 0)),
  (21, (.iload_n 2, 0, 0)),
  (22, (.invokestatic 218, 0, 2337)),
  (25, (.i2l, 0, 0)),
  (26, (.ladd, 0, 0)),
  (27, (.bipush 64, 0, 0)),
  (29, (.aload_n 0, 0, 0)),
  (30, (.getfield 66, 0, 347)),
  (33, (.imul, 0, 0)),
  (34, (.i2l, 0, 0)),
  (35, (.lcmp, 0, 0)),
  (36, (.ifCond .le 7, 0, 43)),
  (39, (.iconst (-1), 0, 0)),
  (40, (.goto 5, 0, 45)),
  (43, (.lload_n 3, 0, 0)),
  (44, (.l2i, 0, 0)),
  (45, (.ireturn, 0, 0))], [])
/-- WasmCoreModel.bytesOf(I)I -/
def M_146 : xM := ("WasmCoreModel", ⟨"WasmCoreModel", "bytesOf", "(I)I"⟩, prog_9_method_40_code, 1, (some .int), [
  (0, (.iload_n 0, 0, 0)),
  (1, (.bipush 40, 0, 0)),
  (3, (.if_icmp .eq 9, 0, 12)),
  (6, (.iload_n 0, 0, 0)),
  (7, (.bipush 54, 0, 0)),
  (9, (.if_icmp .ne 7, 0, 16)),
  (12, (.iconst 4, 0, 0)),
  (13, (.goto 26, 0, 39)),
  (16, (.iload_n 0, 0, 0)),
  (17, (.bipush 46, 0, 0)),
  (19, (.if_icmp .eq 15, 0, 34)),
  (22, (.iload_n 0, 0, 0)),
  (23, (.bipush 47, 0, 0)),
  (25, (.if_icmp .eq 9, 0, 34)),
  (28, (.iload_n 0, 0, 0)),
  (29, (.bipush 59, 0, 0)),
  (31, (.if_icmp .ne 7, 0, 38)),
  (34, (.iconst 2, 0, 0)),
  (35, (.goto 4, 0, 39)),
  (38, (.iconst 1, 0, 0)),
  (39, (.ireturn, 0, 0))], [])
/-- WasmCoreModel.goes(II)V -/
def M_147 : xM := ("WasmCoreModel", ⟨"WasmCoreModel", "goes", "(II)V"⟩, prog_9_method_52_code, 4, none, [
  (0, (.aload_n 0, 0, 0)),
  (1, (.getfield 60, 0, 341)),
  (4, (.aload_n 0, 0, 0)),
  (5, (.getfield 193, 0, 352)),
  (8, (.iaload, 0, 0)),
  (9, (.istore_n 3, 0, 0)),
  (10, (.iload_n 1, 0, 0)),
  (11, (.iconst 4, 0, 0)),
  (12, (.if_icmp .ne 67, 0, 79)),
  (15, (.aload_n 0, 0, 0)),
  (16, (.dup, 0, 0)),
  (17, (.getfield 190, 0, 353)),
  (20, (.iconst 1, 0, 0)),
  (21, (.isub, 0, 0)),
  (22, (.putfield 190, 0, 353)),
  (25, (.aload_n 0, 0, 0)),
  (26, (.aload_n 0, 0, 0)),
  (27, (.getfield 75, 0, 354)),
  (30, (.aload_n 0, 0, 0)),
  (31, (.getfield 190, 0, 353)),
  (34, (.iaload, 0, 0)),
  (35, (.ifCond .eq 12, 0, 47)),
  (38, (.aload_n 0, 0, 0)),
  (39, (.getfield 193, 0, 352)),
  (42, (.iconst 2, 0, 0)),
  (43, (.iadd, 0, 0)),
  (44, (.goto 29, 0, 73)),
  (47, (.aload_n 0, 0, 0)),
  (48, (.getfield 47, 0, 337)),
  (51, (.iload_n 3, 0, 0)),
  (52, (.iaload, 0, 0)),
  (53, (.ifCond .lt 14, 0, 67)),
  (56, (.aload_n 0, 0, 0)),
  (57, (.getfield 47, 0, 337)),
  (60, (.iload_n 3, 0, 0)),
  (61, (.iaload, 0, 0)),
  (62, (.iconst 1, 0, 0)),
  (63, (.iadd, 0, 0)),
  (64, (.goto 9, 0, 73)),
  (67, (.aload_n 0, 0, 0)),
  (68, (.getfield 50, 0, 338)),
  (71, (.iload_n 3, 0, 0)),
  (72, (.iaload, 0, 0)),
  (73, (.putfield 193, 0, 352)),
  (76, (.goto 191, 0, 267)),
  (79, (.iload_n 1, 0, 0)),
  (80, (.iconst 5, 0, 0)),
  (81, (.if_icmp .ne 24, 0, 105)),
  (84, (.aload_n 0, 0, 0)),
  (85, (.aload_n 0, 0, 0)),
  (86, (.getfield 50, 0, 338)),
  (89, (.aload_n 0, 0, 0)),
  (90, (.getfield 57, 0, 340)),
  (93, (.aload_n 0, 0, 0)),
  (94, (.getfield 193, 0, 352)),
  (97, (.iaload, 0, 0)),
  (98, (.iaload, 0, 0)),
  (99, (.putfield 193, 0, 352)),
  (102, (.goto 165, 0, 267)),
  (105, (.iload_n 1, 0, 0)),
  (106, (.bipush 11, 0, 0)),
  (108, (.if_icmp .ne 40, 0, 148)),
  (111, (.aload_n 0, 0, 0)),
  (112, (.getfield 32, 0, 332)),
  (115, (.aload_n 0, 0, 0)),
  (116, (.getfield 57, 0, 340)),
  (119, (.aload_n 0, 0, 0)),
  (120, (.getfield 193, 0, 352)),
  (123, (.iaload, 0, 0)),
  (124, (.iaload, 0, 0)),
  (125, (.ifCond .ne 10, 0, 135)),
  (128, (.aload_n 0, 0, 0)),
  (129, (.invokevirtual 208, 0, 82369)),
  (132, (.goto 135, 0, 267)),
  (135, (.aload_n 0, 0, 0)),
  (136, (.dup, 0, 0)),
  (137, (.getfield 193, 0, 352)),
  (140, (.iconst 1, 0, 0)),
  (141, (.iadd, 0, 0)),
  (142, (.putfield 193, 0, 352)),
  (145, (.goto 122, 0, 267)),
  (148, (.iload_n 1, 0, 0)),
  (149, (.bipush 12, 0, 0)),
  (151, (.if_icmp .ne 11, 0, 162)),
  (154, (.aload_n 0, 0, 0)),
  (155, (.iload_n 2, 0, 0)),
  (156, (.invokevirtual 258, 0, 82402)),
  (159, (.goto 108, 0, 267)),
  (162, (.iload_n 1, 0, 0)),
  (163, (.bipush 13, 0, 0)),
  (165, (.if_icmp .ne 46, 0, 211)),
  (168, (.aload_n 0, 0, 0)),
  (169, (.dup, 0, 0)),
  (170, (.getfield 190, 0, 353)),
  (173, (.iconst 1, 0, 0)),
  (174, (.isub, 0, 0)),
  (175, (.putfield 190, 0, 353)),
  (178, (.aload_n 0, 0, 0)),
  (179, (.getfield 75, 0, 354)),
  (182, (.aload_n 0, 0, 0)),
  (183, (.getfield 190, 0, 353)),
  (186, (.iaload, 0, 0)),
  (187, (.ifCond .eq 11, 0, 198)),
  (190, (.aload_n 0, 0, 0)),
  (191, (.iload_n 2, 0, 0)),
  (192, (.invokevirtual 258, 0, 82402)),
  (195, (.goto 72, 0, 267)),
  (198, (.aload_n 0, 0, 0)),
  (199, (.dup, 0, 0)),
  (200, (.getfield 193, 0, 352)),
  (203, (.iconst 2, 0, 0)),
  (204, (.iadd, 0, 0)),
  (205, (.putfield 193, 0, 352)),
  (208, (.goto 59, 0, 267)),
  (211, (.iload_n 1, 0, 0)),
  (212, (.bipush 14, 0, 0)),
  (214, (.if_icmp .ne 10, 0, 224)),
  (217, (.aload_n 0, 0, 0)),
  (218, (.invokevirtual 261, 0, 82417)),
  (221, (.goto 46, 0, 267)),
  (224, (.iload_n 1, 0, 0)),
  (225, (.bipush 15, 0, 0)),
  (227, (.if_icmp .ne 10, 0, 237)),
  (230, (.aload_n 0, 0, 0)),
  (231, (.invokevirtual 208, 0, 82369)),
  (234, (.goto 33, 0, 267)),
  (237, (.iload_n 1, 0, 0)),
  (238, (.bipush 16, 0, 0)),
  (240, (.if_icmp .ne 17, 0, 257)),
  (243, (.aload_n 0, 0, 0)),
  (244, (.iload_n 2, 0, 0)),
  (245, (.aload_n 0, 0, 0)),
  (246, (.getfield 193, 0, 352)),
  (249, (.iconst 2, 0, 0)),
  (250, (.iadd, 0, 0)),
  (251, (.invokevirtual 199, 0, 82227)),
  (254, (.goto 13, 0, 267)),
  (257, (.aload_n 0, 0, 0)),
  (258, (.dup, 0, 0)),
  (259, (.getfield 193, 0, 352)),
  (262, (.iconst 2, 0, 0)),
  (263, (.iadd, 0, 0)),
  (264, (.putfield 193, 0, 352)),
  (267, (.return_, 0, 0))], [])
/-- WasmCoreModel.comeBack()V -/
def M_148 : xM := ("WasmCoreModel", ⟨"WasmCoreModel", "comeBack", "()V"⟩, prog_9_method_33_code, 3, none, [
  (0, (.aload_n 0, 0, 0)),
  (1, (.getfield 187, 0, 355)),
  (4, (.iconst 1, 0, 0)),
  (5, (.isub, 0, 0)),
  (6, (.istore_n 1, 0, 0)),
  (7, (.aload_n 0, 0, 0)),
  (8, (.getfield 78, 0, 356)),
  (11, (.iload_n 1, 0, 0)),
  (12, (.iaload, 0, 0)),
  (13, (.istore_n 2, 0, 0)),
  (14, (.aload_n 0, 0, 0)),
  (15, (.aload_n 0, 0, 0)),
  (16, (.getfield 84, 0, 358)),
  (19, (.iload_n 1, 0, 0)),
  (20, (.iaload, 0, 0)),
  (21, (.aload_n 0, 0, 0)),
  (22, (.getfield 22, 0, 328)),
  (25, (.iload_n 2, 0, 0)),
  (26, (.iaload, 0, 0)),
  (27, (.invokevirtual 202, 0, 82387)),
  (30, (.aload_n 0, 0, 0)),
  (31, (.iload_n 1, 0, 0)),
  (32, (.putfield 187, 0, 355)),
  (35, (.aload_n 0, 0, 0)),
  (36, (.aload_n 0, 0, 0)),
  (37, (.getfield 81, 0, 357)),
  (40, (.iload_n 1, 0, 0)),
  (41, (.iaload, 0, 0)),
  (42, (.putfield 193, 0, 352)),
  (45, (.iload_n 1, 0, 0)),
  (46, (.ifCond .ne 31, 0, 77)),
  (49, (.aload_n 0, 0, 0)),
  (50, (.iconst 3, 0, 0)),
  (51, (.putfield 93, 0, 321)),
  (54, (.aload_n 0, 0, 0)),
  (55, (.aload_n 0, 0, 0)),
  (56, (.getfield 22, 0, 328)),
  (59, (.iload_n 2, 0, 0)),
  (60, (.iaload, 0, 0)),
  (61, (.ifCond .le 12, 0, 73)),
  (64, (.aload_n 0, 0, 0)),
  (65, (.getfield 75, 0, 354)),
  (68, (.iconst 0, 0, 0)),
  (69, (.iaload, 0, 0)),
  (70, (.goto 4, 0, 74)),
  (73, (.iconst 0, 0, 0)),
  (74, (.putfield 205, 0, 360)),
  (77, (.return_, 0, 0))], [])
/-- WasmCoreModel.fall(II)V -/
def M_149 : xM := ("WasmCoreModel", ⟨"WasmCoreModel", "fall", "(II)V"⟩, prog_9_method_32_code, 4, none, [
  (0, (.iconst 0, 0, 0)),
  (1, (.istore_n 3, 0, 0)),
  (2, (.iload_n 3, 0, 0)),
  (3, (.iload_n 2, 0, 0)),
  (4, (.if_icmp .ge 30, 0, 34)),
  (7, (.aload_n 0, 0, 0)),
  (8, (.getfield 75, 0, 354)),
  (11, (.iload_n 1, 0, 0)),
  (12, (.iload_n 3, 0, 0)),
  (13, (.iadd, 0, 0)),
  (14, (.aload_n 0, 0, 0)),
  (15, (.getfield 75, 0, 354)),
  (18, (.aload_n 0, 0, 0)),
  (19, (.getfield 190, 0, 353)),
  (22, (.iload_n 2, 0, 0)),
  (23, (.isub, 0, 0)),
  (24, (.iload_n 3, 0, 0)),
  (25, (.iadd, 0, 0)),
  (26, (.iaload, 0, 0)),
  (27, (.iastore, 0, 0)),
  (28, (.iinc 3 1, 0, 0)),
  (31, (.goto (-29), 0, 2)),
  (34, (.aload_n 0, 0, 0)),
  (35, (.iload_n 1, 0, 0)),
  (36, (.iload_n 2, 0, 0)),
  (37, (.iadd, 0, 0)),
  (38, (.putfield 190, 0, 353)),
  (41, (.return_, 0, 0))], [])
/-- WasmCoreModel.branch(I)V -/
def M_150 : xM := ("WasmCoreModel", ⟨"WasmCoreModel", "branch", "(I)V"⟩, prog_9_method_34_code, 3, none, [
  (0, (.aload_n 0, 0, 0)),
  (1, (.aload_n 0, 0, 0)),
  (2, (.getfield 57, 0, 340)),
  (5, (.aload_n 0, 0, 0)),
  (6, (.getfield 193, 0, 352)),
  (9, (.iaload, 0, 0)),
  (10, (.iload_n 1, 0, 0)),
  (11, (.invokevirtual 145, 0, 82067)),
  (14, (.istore_n 2, 0, 0)),
  (15, (.aload_n 0, 0, 0)),
  (16, (.getfield 32, 0, 332)),
  (19, (.iload_n 2, 0, 0)),
  (20, (.iaload, 0, 0)),
  (21, (.ifCond .ne 8, 0, 29)),
  (24, (.aload_n 0, 0, 0)),
  (25, (.invokevirtual 208, 0, 82369)),
  (28, (.return_, 0, 0)),
  (29, (.aload_n 0, 0, 0)),
  (30, (.aload_n 0, 0, 0)),
  (31, (.getfield 84, 0, 358)),
  (34, (.aload_n 0, 0, 0)),
  (35, (.getfield 187, 0, 355)),
  (38, (.iconst 1, 0, 0)),
  (39, (.isub, 0, 0)),
  (40, (.iaload, 0, 0)),
  (41, (.aload_n 0, 0, 0)),
  (42, (.getfield 38, 0, 334)),
  (45, (.iload_n 2, 0, 0)),
  (46, (.iaload, 0, 0)),
  (47, (.iadd, 0, 0)),
  (48, (.aload_n 0, 0, 0)),
  (49, (.iload_n 2, 0, 0)),
  (50, (.invokevirtual 149, 0, 82082)),
  (53, (.invokevirtual 202, 0, 82387)),
  (56, (.aload_n 0, 0, 0)),
  (57, (.aload_n 0, 0, 0)),
  (58, (.getfield 32, 0, 332)),
  (61, (.iload_n 2, 0, 0)),
  (62, (.iaload, 0, 0)),
  (63, (.iconst 3, 0, 0)),
  (64, (.if_icmp .ne 14, 0, 78)),
  (67, (.aload_n 0, 0, 0)),
  (68, (.getfield 44, 0, 336)),
  (71, (.iload_n 2, 0, 0)),
  (72, (.iaload, 0, 0)),
  (73, (.iconst 2, 0, 0)),
  (74, (.iadd, 0, 0)),
  (75, (.goto 11, 0, 86)),
  (78, (.aload_n 0, 0, 0)),
  (79, (.getfield 50, 0, 338)),
  (82, (.iload_n 2, 0, 0)),
  (83, (.iaload, 0, 0)),
  (84, (.iconst 1, 0, 0)),
  (85, (.iadd, 0, 0)),
  (86, (.putfield 193, 0, 352)),
  (89, (.return_, 0, 0))], [])
/-- WasmCoreModel.table()V -/
def M_151 : xM := ("WasmCoreModel", ⟨"WasmCoreModel", "table", "()V"⟩, prog_9_method_51_code, 3, none, [
  (0, (.aload_n 0, 0, 0)),
  (1, (.getfield 7, 0, 323)),
  (4, (.aload_n 0, 0, 0)),
  (5, (.getfield 193, 0, 352)),
  (8, (.iconst 1, 0, 0)),
  (9, (.iadd, 0, 0)),
  (10, (.iaload, 0, 0)),
  (11, (.istore_n 1, 0, 0)),
  (12, (.aload_n 0, 0, 0)),
  (13, (.dup, 0, 0)),
  (14, (.getfield 190, 0, 353)),
  (17, (.iconst 1, 0, 0)),
  (18, (.isub, 0, 0)),
  (19, (.putfield 190, 0, 353)),
  (22, (.aload_n 0, 0, 0)),
  (23, (.getfield 75, 0, 354)),
  (26, (.aload_n 0, 0, 0)),
  (27, (.getfield 190, 0, 353)),
  (30, (.iaload, 0, 0)),
  (31, (.istore_n 2, 0, 0)),
  (32, (.aload_n 0, 0, 0)),
  (33, (.aload_n 0, 0, 0)),
  (34, (.getfield 7, 0, 323)),
  (37, (.aload_n 0, 0, 0)),
  (38, (.getfield 193, 0, 352)),
  (41, (.iconst 2, 0, 0)),
  (42, (.iadd, 0, 0)),
  (43, (.iload_n 2, 0, 0)),
  (44, (.ifCond .lt 8, 0, 52)),
  (47, (.iload_n 2, 0, 0)),
  (48, (.iload_n 1, 0, 0)),
  (49, (.if_icmp .le 7, 0, 56)),
  (52, (.iload_n 1, 0, 0)),
  (53, (.goto 4, 0, 57)),
  (56, (.iload_n 2, 0, 0)),
  (57, (.iadd, 0, 0)),
  (58, (.iaload, 0, 0)),
  (59, (.invokevirtual 258, 0, 82402)),
  (62, (.return_, 0, 0))], [])
/-- WasmCoreModel.plain(II)V -/
def M_152 : xM := ("WasmCoreModel", ⟨"WasmCoreModel", "plain", "(II)V"⟩, prog_9_method_50_code, 6, none, [
  (0, (.iload_n 1, 0, 0)),
  (1, (.invokestatic 169, 0, 2129)),
  (4, (.istore_n 3, 0, 0)),
  (5, (.aload_n 0, 0, 0)),
  (6, (.getfield 190, 0, 353)),
  (9, (.ifCond .le 17, 0, 26)),
  (12, (.aload_n 0, 0, 0)),
  (13, (.getfield 75, 0, 354)),
  (16, (.aload_n 0, 0, 0)),
  (17, (.getfield 190, 0, 353)),
  (20, (.iconst 1, 0, 0)),
  (21, (.isub, 0, 0)),
  (22, (.iaload, 0, 0)),
  (23, (.goto 4, 0, 27)),
  (26, (.iconst 0, 0, 0)),
  (27, (.istore 4, 0, 0)),
  (29, (.iload_n 1, 0, 0)),
  (30, (.invokestatic 224, 0, 2305)),
  (33, (.ifCond .eq 13, 0, 46)),
  (36, (.aload_n 0, 0, 0)),
  (37, (.iload_n 1, 0, 0)),
  (38, (.iload 4, 0, 0)),
  (40, (.invokevirtual 239, 0, 82451)),
  (43, (.goto 183, 0, 226)),
  (46, (.iload_n 3, 0, 0)),
  (47, (.iconst 3, 0, 0)),
  (48, (.if_icmp .ne 55, 0, 103)),
  (51, (.aload_n 0, 0, 0)),
  (52, (.dup, 0, 0)),
  (53, (.getfield 190, 0, 353)),
  (56, (.iconst 2, 0, 0)),
  (57, (.isub, 0, 0)),
  (58, (.putfield 190, 0, 353)),
  (61, (.aload_n 0, 0, 0)),
  (62, (.getfield 75, 0, 354)),
  (65, (.aload_n 0, 0, 0)),
  (66, (.getfield 190, 0, 353)),
  (69, (.iconst 1, 0, 0)),
  (70, (.isub, 0, 0)),
  (71, (.iload 4, 0, 0)),
  (73, (.ifCond .eq 17, 0, 90)),
  (76, (.aload_n 0, 0, 0)),
  (77, (.getfield 75, 0, 354)),
  (80, (.aload_n 0, 0, 0)),
  (81, (.getfield 190, 0, 353)),
  (84, (.iconst 1, 0, 0)),
  (85, (.isub, 0, 0)),
  (86, (.iaload, 0, 0)),
  (87, (.goto 12, 0, 99)),
  (90, (.aload_n 0, 0, 0)),
  (91, (.getfield 75, 0, 354)),
  (94, (.aload_n 0, 0, 0)),
  (95, (.getfield 190, 0, 353)),
  (98, (.iaload, 0, 0)),
  (99, (.iastore, 0, 0)),
  (100, (.goto 126, 0, 226)),
  (103, (.iload_n 3, 0, 0)),
  (104, (.iconst 2, 0, 0)),
  (105, (.if_icmp .ne 96, 0, 201)),
  (108, (.aload_n 0, 0, 0)),
  (109, (.dup, 0, 0)),
  (110, (.getfield 190, 0, 353)),
  (113, (.iconst 1, 0, 0)),
  (114, (.isub, 0, 0)),
  (115, (.putfield 190, 0, 353)),
  (118, (.aload_n 0, 0, 0)),
  (119, (.getfield 75, 0, 354)),
  (122, (.aload_n 0, 0, 0)),
  (123, (.getfield 190, 0, 353)),
  (126, (.iconst 1, 0, 0)),
  (127, (.isub, 0, 0)),
  (128, (.iaload, 0, 0)),
  (129, (.istore 5, 0, 0)),
  (131, (.aload_n 0, 0, 0)),
  (132, (.getfield 75, 0, 354)),
  (135, (.aload_n 0, 0, 0)),
  (136, (.getfield 190, 0, 353)),
  (139, (.iconst 1, 0, 0)),
  (140, (.isub, 0, 0)),
  (141, (.iload_n 1, 0, 0)),
  (142, (.bipush 80, 0, 0)),
  (144, (.if_icmp .ge 22, 0, 166)),
  (147, (.iload_n 1, 0, 0)),
  (148, (.iload 5, 0, 0)),
  (150, (.iload 4, 0, 0)),
  (152, (.invokestatic 242, 0, 2467)),
  (155, (.ifCond .eq 7, 0, 162)),
  (158, (.iconst 1, 0, 0)),
  (159, (.goto 38, 0, 197)),
  (162, (.iconst 0, 0, 0)),
  (163, (.goto 34, 0, 197)),
  (166, (.iload_n 1, 0, 0)),
  (167, (.bipush 109, 0, 0)),
  (169, (.if_icmp .lt 20, 0, 189)),
  (172, (.iload_n 1, 0, 0)),
  (173, (.bipush 112, 0, 0)),
  (175, (.if_icmp .gt 14, 0, 189)),
  (178, (.iload_n 1, 0, 0)),
  (179, (.iload 5, 0, 0)),
  (181, (.iload 4, 0, 0)),
  (183, (.invokestatic 245, 0, 2499)),
  (186, (.goto 11, 0, 197)),
  (189, (.iload_n 1, 0, 0)),
  (190, (.iload 5, 0, 0)),
  (192, (.iload 4, 0, 0)),
  (194, (.invokestatic 249, 0, 2515)),
  (197, (.iastore, 0, 0)),
  (198, (.goto 28, 0, 226)),
  (201, (.iload_n 3, 0, 0)),
  (202, (.iconst 1, 0, 0)),
  (203, (.if_icmp .ne 12, 0, 215)),
  (206, (.aload_n 0, 0, 0)),
  (207, (.iload_n 1, 0, 0)),
  (208, (.iload_n 2, 0, 0)),
  (209, (.invokevirtual 252, 0, 82531)),
  (212, (.goto 14, 0, 226)),
  (215, (.iload_n 1, 0, 0)),
  (216, (.iconst 1, 0, 0)),
  (217, (.if_icmp .eq 9, 0, 226)),
  (220, (.aload_n 0, 0, 0)),
  (221, (.iload_n 1, 0, 0)),
  (222, (.iload_n 2, 0, 0)),
  (223, (.invokevirtual 255, 0, 82595)),
  (226, (.aload_n 0, 0, 0)),
  (227, (.dup, 0, 0)),
  (228, (.getfield 193, 0, 352)),
  (231, (.iconst 1, 0, 0)),
  (232, (.iload_n 1, 0, 0)),
  (233, (.invokestatic 124, 0, 1937)),
  (236, (.iadd, 0, 0)),
  (237, (.iadd, 0, 0)),
  (238, (.putfield 193, 0, 352)),
  (241, (.return_, 0, 0))], [])
/-- WasmCoreModel.store(II)V -/
def M_153 : xM := ("WasmCoreModel", ⟨"WasmCoreModel", "store", "(II)V"⟩, prog_9_method_48_code, 6, none, [
  (0, (.aload_n 0, 0, 0)),
  (1, (.aload_n 0, 0, 0)),
  (2, (.getfield 75, 0, 354)),
  (5, (.aload_n 0, 0, 0)),
  (6, (.getfield 190, 0, 353)),
  (9, (.iconst 2, 0, 0)),
  (10, (.isub, 0, 0)),
  (11, (.iaload, 0, 0)),
  (12, (.iload_n 1, 0, 0)),
  (13, (.invokevirtual 227, 0, 82323)),
  (16, (.istore_n 3, 0, 0)),
  (17, (.iload_n 2, 0, 0)),
  (18, (.istore 4, 0, 0)),
  (20, (.iconst 0, 0, 0)),
  (21, (.istore 5, 0, 0)),
  (23, (.iload 5, 0, 0)),
  (25, (.iload_n 1, 0, 0)),
  (26, (.invokestatic 218, 0, 2337)),
  (29, (.if_icmp .ge 31, 0, 60)),
  (32, (.aload_n 0, 0, 0)),
  (33, (.getfield 63, 0, 346)),
  (36, (.iload_n 3, 0, 0)),
  (37, (.iload 5, 0, 0)),
  (39, (.iadd, 0, 0)),
  (40, (.iload 4, 0, 0)),
  (42, (.sipush 255, 0, 0)),
  (45, (.iand, 0, 0)),
  (46, (.iastore, 0, 0)),
  (47, (.iload 4, 0, 0)),
  (49, (.bipush 8, 0, 0)),
  (51, (.ishr, 0, 0)),
  (52, (.istore 4, 0, 0)),
  (54, (.iinc 5 1, 0, 0)),
  (57, (.goto (-34), 0, 23)),
  (60, (.aload_n 0, 0, 0)),
  (61, (.dup, 0, 0)),
  (62, (.getfield 190, 0, 353)),
  (65, (.iconst 2, 0, 0)),
  (66, (.isub, 0, 0)),
  (67, (.putfield 190, 0, 353)),
  (70, (.return_, 0, 0))], [])
/-- WasmCoreModel.compare(III)Z -/
def M_154 : xM := ("WasmCoreModel", ⟨"WasmCoreModel", "compare", "(III)Z"⟩, prog_9_method_36_code, 3, (some .boolean), [
  (0, (.iload_n 0, 0, 0)),
  (1, (.tableswitch 143 70 78 #[51, 62, 73, 84, 90, 101, 107, 118, 132], 51, 0)),
  (52, (.iload_n 1, 0, 0)),
  (53, (.iload_n 2, 0, 0)),
  (54, (.if_icmp .ne 7, 0, 61)),
  (57, (.iconst 1, 0, 0)),
  (58, (.goto 4, 0, 62)),
  (61, (.iconst 0, 0, 0)),
  (62, (.ireturn, 0, 1)),
  (63, (.iload_n 1, 0, 0)),
  (64, (.iload_n 2, 0, 0)),
  (65, (.if_icmp .eq 7, 0, 72)),
  (68, (.iconst 1, 0, 0)),
  (69, (.goto 4, 0, 73)),
  (72, (.iconst 0, 0, 0)),
  (73, (.ireturn, 0, 1)),
  (74, (.iload_n 1, 0, 0)),
  (75, (.iload_n 2, 0, 0)),
  (76, (.if_icmp .ge 7, 0, 83)),
  (79, (.iconst 1, 0, 0)),
  (80, (.goto 4, 0, 84)),
  (83, (.iconst 0, 0, 0)),
  (84, (.ireturn, 0, 1)),
  (85, (.iload_n 1, 0, 0)),
  (86, (.iload_n 2, 0, 0)),
  (87, (.invokestatic 212, 0, 2482)),
  (90, (.ireturn, 0, 1)),
  (91, (.iload_n 1, 0, 0)),
  (92, (.iload_n 2, 0, 0)),
  (93, (.if_icmp .le 7, 0, 100)),
  (96, (.iconst 1, 0, 0)),
  (97, (.goto 4, 0, 101)),
  (100, (.iconst 0, 0, 0)),
  (101, (.ireturn, 0, 1)),
  (102, (.iload_n 2, 0, 0)),
  (103, (.iload_n 1, 0, 0)),
  (104, (.invokestatic 212, 0, 2482)),
  (107, (.ireturn, 0, 1)),
  (108, (.iload_n 1, 0, 0)),
  (109, (.iload_n 2, 0, 0)),
  (110, (.if_icmp .gt 7, 0, 117)),
  (113, (.iconst 1, 0, 0)),
  (114, (.goto 4, 0, 118)),
  (117, (.iconst 0, 0, 0)),
  (118, (.ireturn, 0, 1)),
  (119, (.iload_n 2, 0, 0)),
  (120, (.iload_n 1, 0, 0)),
  (121, (.invokestatic 212, 0, 2482)),
  (124, (.ifCond .ne 7, 0, 131)),
  (127, (.iconst 1, 0, 0)),
  (128, (.goto 4, 0, 132)),
  (131, (.iconst 0, 0, 0)),
  (132, (.ireturn, 0, 1)),
  (133, (.iload_n 1, 0, 0)),
  (134, (.iload_n 2, 0, 0)),
  (135, (.if_icmp .lt 7, 0, 142)),
  (138, (.iconst 1, 0, 0)),
  (139, (.goto 4, 0, 143)),
  (142, (.iconst 0, 0, 0)),
  (143, (.ireturn, 0, 1)),
  (144, (.iload_n 1, 0, 0)),
  (145, (.iload_n 2, 0, 0)),
  (146, (.invokestatic 212, 0, 2482)),
  (149, (.ifCond .ne 7, 0, 156)),
  (152, (.iconst 1, 0, 0)),
  (153, (.goto 4, 0, 157)),
  (156, (.iconst 0, 0, 0)),
  (157, (.ireturn, 0, 1))], [])
/-- WasmCoreModel.below(II)Z -/
def M_155 : xM := ("WasmCoreModel", ⟨"WasmCoreModel", "below", "(II)Z"⟩, prog_9_method_35_code, 2, (some .boolean), [
  (0, (.iload_n 0, 0, 0)),
  (1, (.ldc 211, 0, 2147483648)),
  (3, (.iadd, 0, 0)),
  (4, (.iload_n 1, 0, 0)),
  (5, (.ldc 211, 0, 2147483648)),
  (7, (.iadd, 0, 0)),
  (8, (.if_icmp .ge 7, 0, 15)),
  (11, (.iconst 1, 0, 0)),
  (12, (.goto 4, 0, 16)),
  (15, (.iconst 0, 0, 0)),
  (16, (.ireturn, 0, 1))], [])
/-- WasmCoreModel.divide(III)I -/
def M_156 : xM := ("WasmCoreModel", ⟨"WasmCoreModel", "divide", "(III)I"⟩, prog_9_method_37_code, 7, (some .int), [
  (0, (.iload_n 1, 0, 0)),
  (1, (.i2l, 0, 0)),
  (2, (.ldc2_w 216, 0, 4294967295)),
  (5, (.land, 0, 0)),
  (6, (.lstore_n 3, 0, 0)),
  (7, (.iload_n 2, 0, 0)),
  (8, (.i2l, 0, 0)),
  (9, (.ldc2_w 216, 0, 4294967295)),
  (12, (.land, 0, 0)),
  (13, (.lstore 5, 0, 0)),
  (15, (.iload_n 0, 0, 0)),
  (16, (.bipush 109, 0, 0)),
  (18, (.if_icmp .ne 9, 0, 27)),
  (21, (.iload_n 1, 0, 0)),
  (22, (.iload_n 2, 0, 0)),
  (23, (.idiv, 0, 0)),
  (24, (.goto 43, 0, 67)),
  (27, (.iload_n 0, 0, 0)),
  (28, (.bipush 110, 0, 0)),
  (30, (.if_icmp .ne 11, 0, 41)),
  (33, (.lload_n 3, 0, 0)),
  (34, (.lload 5, 0, 0)),
  (36, (.ldiv, 0, 0)),
  (37, (.l2i, 0, 0)),
  (38, (.goto 29, 0, 67)),
  (41, (.iload_n 0, 0, 0)),
  (42, (.bipush 111, 0, 0)),
  (44, (.if_icmp .ne 18, 0, 62)),
  (47, (.iload_n 2, 0, 0)),
  (48, (.iconst (-1), 0, 0)),
  (49, (.if_icmp .ne 7, 0, 56)),
  (52, (.iconst 0, 0, 0)),
  (53, (.goto 14, 0, 67)),
  (56, (.iload_n 1, 0, 0)),
  (57, (.iload_n 2, 0, 0)),
  (58, (.irem, 0, 0)),
  (59, (.goto 8, 0, 67)),
  (62, (.lload_n 3, 0, 0)),
  (63, (.lload 5, 0, 0)),
  (65, (.lrem, 0, 0)),
  (66, (.l2i, 0, 0)),
  (67, (.ireturn, 0, 0))], [])
/-- WasmCoreModel.reckon(III)I -/
def M_157 : xM := ("WasmCoreModel", ⟨"WasmCoreModel", "reckon", "(III)I"⟩, prog_9_method_38_code, 3, (some .int), [
  (0, (.iload_n 0, 0, 0)),
  (1, (.tableswitch 121 106 119 #[71, 75, 79, 121, 121, 121, 121, 83, 87, 91, 95, 99, 103, 107], 71, 0)),
  (72, (.iload_n 1, 0, 0)),
  (73, (.iload_n 2, 0, 0)),
  (74, (.iadd, 0, 0)),
  (75, (.ireturn, 0, 0)),
  (76, (.iload_n 1, 0, 0)),
  (77, (.iload_n 2, 0, 0)),
  (78, (.isub, 0, 0)),
  (79, (.ireturn, 0, 0)),
  (80, (.iload_n 1, 0, 0)),
  (81, (.iload_n 2, 0, 0)),
  (82, (.imul, 0, 0)),
  (83, (.ireturn, 0, 0)),
  (84, (.iload_n 1, 0, 0)),
  (85, (.iload_n 2, 0, 0)),
  (86, (.iand, 0, 0)),
  (87, (.ireturn, 0, 0)),
  (88, (.iload_n 1, 0, 0)),
  (89, (.iload_n 2, 0, 0)),
  (90, (.ior, 0, 0)),
  (91, (.ireturn, 0, 0)),
  (92, (.iload_n 1, 0, 0)),
  (93, (.iload_n 2, 0, 0)),
  (94, (.ixor, 0, 0)),
  (95, (.ireturn, 0, 0)),
  (96, (.iload_n 1, 0, 0)),
  (97, (.iload_n 2, 0, 0)),
  (98, (.ishl, 0, 0)),
  (99, (.ireturn, 0, 0)),
  (100, (.iload_n 1, 0, 0)),
  (101, (.iload_n 2, 0, 0)),
  (102, (.ishr, 0, 0)),
  (103, (.ireturn, 0, 0)),
  (104, (.iload_n 1, 0, 0)),
  (105, (.iload_n 2, 0, 0)),
  (106, (.iushr, 0, 0)),
  (107, (.ireturn, 0, 0)),
  (108, (.iload_n 1, 0, 0)),
  (109, (.iload_n 2, 0, 0)),
  (110, (.ishl, 0, 0)),
  (111, (.iload_n 1, 0, 0)),
  (112, (.bipush 32, 0, 0)),
  (114, (.iload_n 2, 0, 0)),
  (115, (.bipush 31, 0, 0)),
  (117, (.iand, 0, 0)),
  (118, (.isub, 0, 0)),
  (119, (.iushr, 0, 0)),
  (120, (.ior, 0, 0)),
  (121, (.ireturn, 0, 0)),
  (122, (.iload_n 1, 0, 0)),
  (123, (.iload_n 2, 0, 0)),
  (124, (.iushr, 0, 0)),
  (125, (.iload_n 1, 0, 0)),
  (126, (.bipush 32, 0, 0)),
  (128, (.iload_n 2, 0, 0)),
  (129, (.bipush 31, 0, 0)),
  (131, (.iand, 0, 0)),
  (132, (.isub, 0, 0)),
  (133, (.ishl, 0, 0)),
  (134, (.ior, 0, 0)),
  (135, (.ireturn, 0, 0))], [])
/-- WasmCoreModel.one(II)V -/
def M_158 : xM := ("WasmCoreModel", ⟨"WasmCoreModel", "one", "(II)V"⟩, prog_9_method_49_code, 5, none, [
  (0, (.aload_n 0, 0, 0)),
  (1, (.getfield 75, 0, 354)),
  (4, (.aload_n 0, 0, 0)),
  (5, (.getfield 190, 0, 353)),
  (8, (.iconst 1, 0, 0)),
  (9, (.isub, 0, 0)),
  (10, (.iaload, 0, 0)),
  (11, (.istore_n 3, 0, 0)),
  (12, (.bipush 8, 0, 0)),
  (14, (.aload_n 0, 0, 0)),
  (15, (.getfield 187, 0, 355)),
  (18, (.iconst 1, 0, 0)),
  (19, (.isub, 0, 0)),
  (20, (.imul, 0, 0)),
  (21, (.istore 4, 0, 0)),
  (23, (.iload_n 1, 0, 0)),
  (24, (.bipush 26, 0, 0)),
  (26, (.if_icmp .eq 15, 0, 41)),
  (29, (.iload_n 1, 0, 0)),
  (30, (.bipush 33, 0, 0)),
  (32, (.if_icmp .eq 9, 0, 41)),
  (35, (.iload_n 1, 0, 0)),
  (36, (.bipush 36, 0, 0)),
  (38, (.if_icmp .ne 13, 0, 51)),
  (41, (.aload_n 0, 0, 0)),
  (42, (.dup, 0, 0)),
  (43, (.getfield 190, 0, 353)),
  (46, (.iconst 1, 0, 0)),
  (47, (.isub, 0, 0)),
  (48, (.putfield 190, 0, 353)),
  (51, (.iload_n 1, 0, 0)),
  (52, (.bipush 33, 0, 0)),
  (54, (.if_icmp .eq 9, 0, 63)),
  (57, (.iload_n 1, 0, 0)),
  (58, (.bipush 34, 0, 0)),
  (60, (.if_icmp .ne 16, 0, 76)),
  (63, (.aload_n 0, 0, 0)),
  (64, (.getfield 87, 0, 359)),
  (67, (.iload 4, 0, 0)),
  (69, (.iload_n 2, 0, 0)),
  (70, (.iadd, 0, 0)),
  (71, (.iload_n 3, 0, 0)),
  (72, (.iastore, 0, 0)),
  (73, (.goto 94, 0, 167)),
  (76, (.iload_n 1, 0, 0)),
  (77, (.bipush 36, 0, 0)),
  (79, (.if_icmp .ne 13, 0, 92)),
  (82, (.aload_n 0, 0, 0)),
  (83, (.getfield 69, 0, 348)),
  (86, (.iload_n 2, 0, 0)),
  (87, (.iload_n 3, 0, 0)),
  (88, (.iastore, 0, 0)),
  (89, (.goto 78, 0, 167)),
  (92, (.iload_n 1, 0, 0)),
  (93, (.bipush 26, 0, 0)),
  (95, (.if_icmp .eq 72, 0, 167)),
  (98, (.aload_n 0, 0, 0)),
  (99, (.getfield 75, 0, 354)),
  (102, (.aload_n 0, 0, 0)),
  (103, (.getfield 190, 0, 353)),
  (106, (.iconst 1, 0, 0)),
  (107, (.isub, 0, 0)),
  (108, (.iload_n 1, 0, 0)),
  (109, (.bipush 64, 0, 0)),
  (111, (.if_icmp .ne 11, 0, 122)),
  (114, (.aload_n 0, 0, 0)),
  (115, (.iload_n 3, 0, 0)),
  (116, (.invokevirtual 230, 0, 82546)),
  (119, (.goto 47, 0, 166)),
  (122, (.iload_n 1, 0, 0)),
  (123, (.bipush 69, 0, 0)),
  (125, (.if_icmp .ne 15, 0, 140)),
  (128, (.iload_n 3, 0, 0)),
  (129, (.ifCond .ne 7, 0, 136)),
  (132, (.iconst 1, 0, 0)),
  (133, (.goto 33, 0, 166)),
  (136, (.iconst 0, 0, 0)),
  (137, (.goto 29, 0, 166)),
  (140, (.iload_n 1, 0, 0)),
  (141, (.invokestatic 221, 0, 2289)),
  (144, (.ifCond .eq 17, 0, 161)),
  (147, (.aload_n 0, 0, 0)),
  (148, (.iload_n 1, 0, 0)),
  (149, (.aload_n 0, 0, 0)),
  (150, (.iload_n 3, 0, 0)),
  (151, (.iload_n 1, 0, 0)),
  (152, (.invokevirtual 227, 0, 82323)),
  (155, (.invokevirtual 233, 0, 82563)),
  (158, (.goto 8, 0, 166)),
  (161, (.iload_n 1, 0, 0)),
  (162, (.iload_n 3, 0, 0)),
  (163, (.invokestatic 236, 0, 2578)),
  (166, (.iastore, 0, 0)),
  (167, (.return_, 0, 0))], [])
/-- WasmCoreModel.grow(I)I -/
def M_159 : xM := ("WasmCoreModel", ⟨"WasmCoreModel", "grow", "(I)I"⟩, prog_9_method_46_code, 3, (some .int), [
  (0, (.aload_n 0, 0, 0)),
  (1, (.getfield 66, 0, 347)),
  (4, (.istore_n 2, 0, 0)),
  (5, (.iload_n 1, 0, 0)),
  (6, (.ifCond .lt 13, 0, 19)),
  (9, (.iload_n 1, 0, 0)),
  (10, (.iconst 4, 0, 0)),
  (11, (.aload_n 0, 0, 0)),
  (12, (.getfield 66, 0, 347)),
  (15, (.isub, 0, 0)),
  (16, (.if_icmp .le 5, 0, 21)),
  (19, (.iconst (-1), 0, 0)),
  (20, (.ireturn, 0, 0)),
  (21, (.aload_n 0, 0, 0)),
  (22, (.dup, 0, 0)),
  (23, (.getfield 66, 0, 347)),
  (26, (.iload_n 1, 0, 0)),
  (27, (.iadd, 0, 0)),
  (28, (.putfield 66, 0, 347)),
  (31, (.iload_n 2, 0, 0)),
  (32, (.ireturn, 0, 0))], [])
/-- WasmCoreModel.load(II)I -/
def M_160 : xM := ("WasmCoreModel", ⟨"WasmCoreModel", "load", "(II)I"⟩, prog_9_method_44_code, 6, (some .int), [
  (0, (.iload_n 1, 0, 0)),
  (1, (.invokestatic 218, 0, 2337)),
  (4, (.istore_n 3, 0, 0)),
  (5, (.iconst 0, 0, 0)),
  (6, (.istore 4, 0, 0)),
  (8, (.iload_n 3, 0, 0)),
  (9, (.iconst 1, 0, 0)),
  (10, (.isub, 0, 0)),
  (11, (.istore 5, 0, 0)),
  (13, (.iload 5, 0, 0)),
  (15, (.ifCond .lt 26, 0, 41)),
  (18, (.iload 4, 0, 0)),
  (20, (.bipush 8, 0, 0)),
  (22, (.ishl, 0, 0)),
  (23, (.aload_n 0, 0, 0)),
  (24, (.getfield 63, 0, 346)),
  (27, (.iload_n 2, 0, 0)),
  (28, (.iload 5, 0, 0)),
  (30, (.iadd, 0, 0)),
  (31, (.iaload, 0, 0)),
  (32, (.ior, 0, 0)),
  (33, (.istore 4, 0, 0)),
  (35, (.iinc 5 (-1), 0, 0)),
  (38, (.goto (-25), 0, 13)),
  (41, (.iload_n 1, 0, 0)),
  (42, (.bipush 44, 0, 0)),
  (44, (.if_icmp .ne 14, 0, 58)),
  (47, (.iload 4, 0, 0)),
  (49, (.bipush 24, 0, 0)),
  (51, (.ishl, 0, 0)),
  (52, (.bipush 24, 0, 0)),
  (54, (.ishr, 0, 0)),
  (55, (.goto 22, 0, 77)),
  (58, (.iload_n 1, 0, 0)),
  (59, (.bipush 46, 0, 0)),
  (61, (.if_icmp .ne 14, 0, 75)),
  (64, (.iload 4, 0, 0)),
  (66, (.bipush 16, 0, 0)),
  (68, (.ishl, 0, 0)),
  (69, (.bipush 16, 0, 0)),
  (71, (.ishr, 0, 0)),
  (72, (.goto 5, 0, 77)),
  (75, (.iload 4, 0, 0)),
  (77, (.ireturn, 0, 0))], [])
/-- WasmCoreModel.count(II)I -/
def M_161 : xM := ("WasmCoreModel", ⟨"WasmCoreModel", "count", "(II)I"⟩, prog_9_method_39_code, 7, (some .int), [
  (0, (.bipush 32, 0, 0)),
  (2, (.istore_n 2, 0, 0)),
  (3, (.bipush 32, 0, 0)),
  (5, (.istore_n 3, 0, 0)),
  (6, (.iconst 0, 0, 0)),
  (7, (.istore 4, 0, 0)),
  (9, (.iconst 0, 0, 0)),
  (10, (.istore 5, 0, 0)),
  (12, (.iload 5, 0, 0)),
  (14, (.bipush 32, 0, 0)),
  (16, (.if_icmp .ge 74, 0, 90)),
  (19, (.iload_n 1, 0, 0)),
  (20, (.iload 5, 0, 0)),
  (22, (.ishr, 0, 0)),
  (23, (.iconst 1, 0, 0)),
  (24, (.iand, 0, 0)),
  (25, (.iconst 1, 0, 0)),
  (26, (.if_icmp .ne 7, 0, 33)),
  (29, (.iconst 1, 0, 0)),
  (30, (.goto 4, 0, 34)),
  (33, (.iconst 0, 0, 0)),
  (34, (.istore 6, 0, 0)),
  (36, (.iload 6, 0, 0)),
  (38, (.ifCond .eq 11, 0, 49)),
  (41, (.bipush 31, 0, 0)),
  (43, (.iload 5, 0, 0)),
  (45, (.isub, 0, 0)),
  (46, (.goto 4, 0, 50)),
  (49, (.iload_n 2, 0, 0)),
  (50, (.istore_n 2, 0, 0)),
  (51, (.iload 6, 0, 0)),
  (53, (.ifCond .eq 14, 0, 67)),
  (56, (.iload_n 3, 0, 0)),
  (57, (.bipush 32, 0, 0)),
  (59, (.if_icmp .ne 8, 0, 67)),
  (62, (.iload 5, 0, 0)),
  (64, (.goto 4, 0, 68)),
  (67, (.iload_n 3, 0, 0)),
  (68, (.istore_n 3, 0, 0)),
  (69, (.iload 4, 0, 0)),
  (71, (.iload 6, 0, 0)),
  (73, (.ifCond .eq 7, 0, 80)),
  (76, (.iconst 1, 0, 0)),
  (77, (.goto 4, 0, 81)),
  (80, (.iconst 0, 0, 0)),
  (81, (.iadd, 0, 0)),
  (82, (.istore 4, 0, 0)),
  (84, (.iinc 5 1, 0, 0)),
  (87, (.goto (-75), 0, 12)),
  (90, (.iload_n 0, 0, 0)),
  (91, (.bipush 103, 0, 0)),
  (93, (.if_icmp .ne 7, 0, 100)),
  (96, (.iload_n 2, 0, 0)),
  (97, (.goto 15, 0, 112)),
  (100, (.iload_n 0, 0, 0)),
  (101, (.bipush 104, 0, 0)),
  (103, (.if_icmp .ne 7, 0, 110)),
  (106, (.iload_n 3, 0, 0)),
  (107, (.goto 5, 0, 112)),
  (110, (.iload 4, 0, 0)),
  (112, (.ireturn, 0, 0))], [])
/-- WasmCoreModel.give(II)V -/
def M_162 : xM := ("WasmCoreModel", ⟨"WasmCoreModel", "give", "(II)V"⟩, prog_9_method_47_code, 4, none, [
  (0, (.bipush 8, 0, 0)),
  (2, (.aload_n 0, 0, 0)),
  (3, (.getfield 187, 0, 355)),
  (6, (.iconst 1, 0, 0)),
  (7, (.isub, 0, 0)),
  (8, (.imul, 0, 0)),
  (9, (.istore_n 3, 0, 0)),
  (10, (.aload_n 0, 0, 0)),
  (11, (.getfield 75, 0, 354)),
  (14, (.aload_n 0, 0, 0)),
  (15, (.getfield 190, 0, 353)),
  (18, (.iload_n 1, 0, 0)),
  (19, (.bipush 32, 0, 0)),
  (21, (.if_icmp .ne 24, 0, 45)),
  (24, (.aload_n 0, 0, 0)),
  (25, (.getfield 87, 0, 359)),
  (28, (.iload_n 3, 0, 0)),
  (29, (.iload_n 1, 0, 0)),
  (30, (.bipush 32, 0, 0)),
  (32, (.if_icmp .ne 7, 0, 39)),
  (35, (.iload_n 2, 0, 0)),
  (36, (.goto 4, 0, 40)),
  (39, (.iconst 0, 0, 0)),
  (40, (.iadd, 0, 0)),
  (41, (.iaload, 0, 0)),
  (42, (.goto 42, 0, 84)),
  (45, (.iload_n 1, 0, 0)),
  (46, (.bipush 35, 0, 0)),
  (48, (.if_icmp .ne 22, 0, 70)),
  (51, (.aload_n 0, 0, 0)),
  (52, (.getfield 69, 0, 348)),
  (55, (.iload_n 1, 0, 0)),
  (56, (.bipush 35, 0, 0)),
  (58, (.if_icmp .ne 7, 0, 65)),
  (61, (.iload_n 2, 0, 0)),
  (62, (.goto 4, 0, 66)),
  (65, (.iconst 0, 0, 0)),
  (66, (.iaload, 0, 0)),
  (67, (.goto 17, 0, 84)),
  (70, (.iload_n 1, 0, 0)),
  (71, (.bipush 63, 0, 0)),
  (73, (.if_icmp .ne 10, 0, 83)),
  (76, (.aload_n 0, 0, 0)),
  (77, (.getfield 66, 0, 347)),
  (80, (.goto 4, 0, 84)),
  (83, (.iload_n 2, 0, 0)),
  (84, (.iastore, 0, 0)),
  (85, (.aload_n 0, 0, 0)),
  (86, (.dup, 0, 0)),
  (87, (.getfield 190, 0, 353)),
  (90, (.iconst 1, 0, 0)),
  (91, (.iadd, 0, 0)),
  (92, (.putfield 190, 0, 353)),
  (95, (.return_, 0, 0))], [])
/-- WasmCoreModel.stop()Z -/
def M_163 : xM := ("WasmCoreModel", ⟨"WasmCoreModel", "stop", "()Z"⟩, prog_9_method_55_code, 2, (some .boolean), [
  (0, (.aload_n 0, 0, 0)),
  (1, (.iconst 0, 0, 0)),
  (2, (.putfield 90, 0, 320)),
  (5, (.aload_n 0, 0, 0)),
  (6, (.getfield 93, 0, 321)),
  (9, (.iconst 2, 0, 0)),
  (10, (.if_icmp .ne 7, 0, 17)),
  (13, (.iconst 1, 0, 0)),
  (14, (.goto 4, 0, 18)),
  (17, (.iconst 0, 0, 0)),
  (18, (.istore_n 1, 0, 0)),
  (19, (.aload_n 0, 0, 0)),
  (20, (.iload_n 1, 0, 0)),
  (21, (.ifCond .eq 7, 0, 28)),
  (24, (.iconst 1, 0, 0)),
  (25, (.goto 7, 0, 32)),
  (28, (.aload_n 0, 0, 0)),
  (29, (.getfield 93, 0, 321)),
  (32, (.putfield 93, 0, 321)),
  (35, (.iload_n 1, 0, 0)),
  (36, (.ireturn, 0, 1))], [])
/-- WasmCoreModel.result()I -/
def M_164 : xM := ("WasmCoreModel", ⟨"WasmCoreModel", "result", "()I"⟩, prog_9_method_56_code, 1, (some .int), [
  (0, (.aload_n 0, 0, 0)),
  (1, (.aload_n 0, 0, 0)),
  (2, (.getfield 93, 0, 321)),
  (5, (.iconst 3, 0, 0)),
  (6, (.if_icmp .ne 7, 0, 13)),
  (9, (.iconst 0, 0, 0)),
  (10, (.goto 4, 0, 14)),
  (13, (.iconst 1, 0, 0)),
  (14, (.putfield 90, 0, 320)),
  (17, (.aload_n 0, 0, 0)),
  (18, (.getfield 93, 0, 321)),
  (21, (.iconst 3, 0, 0)),
  (22, (.if_icmp .ne 10, 0, 32)),
  (25, (.aload_n 0, 0, 0)),
  (26, (.getfield 205, 0, 360)),
  (29, (.goto 4, 0, 33)),
  (32, (.iconst 0, 0, 0)),
  (33, (.ireturn, 0, 0))], [])
/-- WasmCoreModel.look(I)I -/
def M_165 : xM := ("WasmCoreModel", ⟨"WasmCoreModel", "look", "(I)I"⟩, prog_9_method_57_code, 3, (some .int), [
  (0, (.aload_n 0, 0, 0)),
  (1, (.iconst 0, 0, 0)),
  (2, (.putfield 90, 0, 320)),
  (5, (.aload_n 0, 0, 0)),
  (6, (.getfield 93, 0, 321)),
  (9, (.iconst 2, 0, 0)),
  (10, (.if_icmp .ne 7, 0, 17)),
  (13, (.iconst 1, 0, 0)),
  (14, (.goto 4, 0, 18)),
  (17, (.iconst 0, 0, 0)),
  (18, (.istore_n 2, 0, 0)),
  (19, (.iload_n 1, 0, 0)),
  (20, (.tableswitch 115 0 6 #[44, 49, 66, 79, 92, 105, 110], 44, 0)),
  (64, (.aload_n 0, 0, 0)),
  (65, (.getfield 93, 0, 321)),
  (68, (.ireturn, 0, 0)),
  (69, (.aload_n 0, 0, 0)),
  (70, (.getfield 93, 0, 321)),
  (73, (.iconst 4, 0, 0)),
  (74, (.if_icmp .ne 10, 0, 84)),
  (77, (.aload_n 0, 0, 0)),
  (78, (.getfield 196, 0, 351)),
  (81, (.goto 4, 0, 85)),
  (84, (.iconst 0, 0, 0)),
  (85, (.ireturn, 0, 0)),
  (86, (.iload_n 2, 0, 0)),
  (87, (.ifCond .eq 10, 0, 97)),
  (90, (.aload_n 0, 0, 0)),
  (91, (.getfield 193, 0, 352)),
  (94, (.goto 4, 0, 98)),
  (97, (.iconst (-1), 0, 0)),
  (98, (.ireturn, 0, 0)),
  (99, (.iload_n 2, 0, 0)),
  (100, (.ifCond .eq 10, 0, 110)),
  (103, (.aload_n 0, 0, 0)),
  (104, (.getfield 190, 0, 353)),
  (107, (.goto 4, 0, 111)),
  (110, (.iconst 0, 0, 0)),
  (111, (.ireturn, 0, 0)),
  (112, (.iload_n 2, 0, 0)),
  (113, (.ifCond .eq 10, 0, 123)),
  (116, (.aload_n 0, 0, 0)),
  (117, (.getfield 187, 0, 355)),
  (120, (.goto 4, 0, 124)),
  (123, (.iconst 0, 0, 0)),
  (124, (.ireturn, 0, 0)),
  (125, (.aload_n 0, 0, 0)),
  (126, (.getfield 66, 0, 347)),
  (129, (.ireturn, 0, 0)),
  (130, (.aload_n 0, 0, 0)),
  (131, (.getfield 96, 0, 322)),
  (134, (.ireturn, 0, 0)),
  (135, (.iconst (-1), 0, 0)),
  (136, (.ireturn, 0, 0))], [])
/-- WasmCoreModel.value(II)I -/
def M_166 : xM := ("WasmCoreModel", ⟨"WasmCoreModel", "value", "(II)I"⟩, prog_9_method_58_code, 7, (some .int), [
  (0, (.aload_n 0, 0, 0)),
  (1, (.getfield 93, 0, 321)),
  (4, (.iconst 2, 0, 0)),
  (5, (.if_icmp .ne 7, 0, 12)),
  (8, (.iconst 1, 0, 0)),
  (9, (.goto 4, 0, 13)),
  (12, (.iconst 0, 0, 0)),
  (13, (.istore_n 3, 0, 0)),
  (14, (.iload_n 3, 0, 0)),
  (15, (.ifCond .eq 12, 0, 27)),
  (18, (.aload_n 0, 0, 0)),
  (19, (.getfield 187, 0, 355)),
  (22, (.iconst 1, 0, 0)),
  (23, (.isub, 0, 0)),
  (24, (.goto 4, 0, 28)),
  (27, (.iconst 0, 0, 0)),
  (28, (.istore 4, 0, 0)),
  (30, (.aload_n 0, 0, 0)),
  (31, (.getfield 78, 0, 356)),
  (34, (.iload 4, 0, 0)),
  (36, (.iaload, 0, 0)),
  (37, (.istore 5, 0, 0)),
  (39, (.iload_n 1, 0, 0)),
  (40, (.ifCond .ne 14, 0, 54)),
  (43, (.iload_n 3, 0, 0)),
  (44, (.ifCond .eq 10, 0, 54)),
  (47, (.aload_n 0, 0, 0)),
  (48, (.getfield 190, 0, 353)),
  (51, (.goto 40, 0, 91)),
  (54, (.iload_n 1, 0, 0)),
  (55, (.iconst 1, 0, 0)),
  (56, (.if_icmp .ne 25, 0, 81)),
  (59, (.iload_n 3, 0, 0)),
  (60, (.ifCond .eq 21, 0, 81)),
  (63, (.aload_n 0, 0, 0)),
  (64, (.getfield 16, 0, 326)),
  (67, (.iload 5, 0, 0)),
  (69, (.iaload, 0, 0)),
  (70, (.aload_n 0, 0, 0)),
  (71, (.getfield 19, 0, 327)),
  (74, (.iload 5, 0, 0)),
  (76, (.iaload, 0, 0)),
  (77, (.iadd, 0, 0)),
  (78, (.goto 13, 0, 91)),
  (81, (.iload_n 1, 0, 0)),
  (82, (.iconst 2, 0, 0)),
  (83, (.if_icmp .ne 7, 0, 90)),
  (86, (.iconst 4, 0, 0)),
  (87, (.goto 4, 0, 91)),
  (90, (.iconst 0, 0, 0)),
  (91, (.istore 6, 0, 0)),
  (93, (.aload_n 0, 0, 0)),
  (94, (.iload_n 2, 0, 0)),
  (95, (.ifCond .lt 9, 0, 104)),
  (98, (.iload_n 2, 0, 0)),
  (99, (.iload 6, 0, 0)),
  (101, (.if_icmp .lt 7, 0, 108)),
  (104, (.iconst 1, 0, 0)),
  (105, (.goto 4, 0, 109)),
  (108, (.iconst 0, 0, 0)),
  (109, (.putfield 90, 0, 320)),
  (112, (.aload_n 0, 0, 0)),
  (113, (.getfield 90, 0, 320)),
  (116, (.ifCond .le 5, 0, 121)),
  (119, (.iconst 0, 0, 0)),
  (120, (.ireturn, 0, 0)),
  (121, (.iload_n 1, 0, 0)),
  (122, (.ifCond .ne 12, 0, 134)),
  (125, (.aload_n 0, 0, 0)),
  (126, (.getfield 75, 0, 354)),
  (129, (.iload_n 2, 0, 0)),
  (130, (.iaload, 0, 0)),
  (131, (.goto 29, 0, 160)),
  (134, (.iload_n 1, 0, 0)),
  (135, (.iconst 1, 0, 0)),
  (136, (.if_icmp .ne 18, 0, 154)),
  (139, (.aload_n 0, 0, 0)),
  (140, (.getfield 87, 0, 359)),
  (143, (.bipush 8, 0, 0)),
  (145, (.iload 4, 0, 0)),
  (147, (.imul, 0, 0)),
  (148, (.iload_n 2, 0, 0)),
  (149, (.iadd, 0, 0)),
  (150, (.iaload, 0, 0)),
  (151, (.goto 9, 0, 160)),
  (154, (.aload_n 0, 0, 0)),
  (155, (.getfield 69, 0, 348)),
  (158, (.iload_n 2, 0, 0)),
  (159, (.iaload, 0, 0)),
  (160, (.ireturn, 0, 0))], [])
/-- WasmCoreModel.peek(I)I -/
def M_167 : xM := ("WasmCoreModel", ⟨"WasmCoreModel", "peek", "(I)I"⟩, prog_9_method_59_code, 2, (some .int), [
  (0, (.aload_n 0, 0, 0)),
  (1, (.iconst 0, 0, 0)),
  (2, (.putfield 90, 0, 320)),
  (5, (.iload_n 1, 0, 0)),
  (6, (.ifCond .lt 14, 0, 20)),
  (9, (.iload_n 1, 0, 0)),
  (10, (.bipush 64, 0, 0)),
  (12, (.aload_n 0, 0, 0)),
  (13, (.getfield 66, 0, 347)),
  (16, (.imul, 0, 0)),
  (17, (.if_icmp .lt 7, 0, 24)),
  (20, (.iconst (-1), 0, 0)),
  (21, (.goto 9, 0, 30)),
  (24, (.aload_n 0, 0, 0)),
  (25, (.getfield 63, 0, 346)),
  (28, (.iload_n 1, 0, 0)),
  (29, (.iaload, 0, 0)),
  (30, (.ireturn, 0, 0))], [])
/-- WasmCoreModel.poke(II)Z -/
def M_168 : xM := ("WasmCoreModel", ⟨"WasmCoreModel", "poke", "(II)Z"⟩, prog_9_method_60_code, 3, (some .boolean), [
  (0, (.aload_n 0, 0, 0)),
  (1, (.iconst 0, 0, 0)),
  (2, (.putfield 90, 0, 320)),
  (5, (.iload_n 1, 0, 0)),
  (6, (.ifCond .lt 22, 0, 28)),
  (9, (.iload_n 1, 0, 0)),
  (10, (.bipush 64, 0, 0)),
  (12, (.aload_n 0, 0, 0)),
  (13, (.getfield 66, 0, 347)),
  (16, (.imul, 0, 0)),
  (17, (.if_icmp .ge 11, 0, 28)),
  (20, (.aload_n 0, 0, 0)),
  (21, (.getfield 93, 0, 321)),
  (24, (.iconst 2, 0, 0)),
  (25, (.if_icmp .ne 5, 0, 30)),
  (28, (.iconst 0, 0, 0)),
  (29, (.ireturn, 0, 1)),
  (30, (.aload_n 0, 0, 0)),
  (31, (.getfield 63, 0, 346)),
  (34, (.iload_n 1, 0, 0)),
  (35, (.iload_n 2, 0, 0)),
  (36, (.sipush 255, 0, 0)),
  (39, (.iand, 0, 0)),
  (40, (.iastore, 0, 0)),
  (41, (.iconst 1, 0, 0)),
  (42, (.ireturn, 0, 1))], [])
/-- WasmCoreLaw.law([I)Z -/
def M_169 : xM := ("WasmCoreLaw", ⟨"WasmCoreLaw", "law", "([I)Z"⟩, code, 7, (some .boolean), [
  (0, (.new 8, 0, 0)),
  (3, (.dup, 0, 0)),
  (4, (.invokespecial 42, 0, 1)),
  (7, (.astore_n 1, 0, 0)),
  (8, (.new 43, 0, 5)),
  (11, (.dup, 0, 0)),
  (12, (.invokespecial 45, 0, 1745)),
  (15, (.astore_n 2, 0, 0)),
  (16, (.iconst 1, 0, 0)),
  (17, (.newarray .long, 0, 0)),
  (19, (.astore_n 3, 0, 0)),
  (20, (.iconst 0, 0, 0)),
  (21, (.istore 4, 0, 0)),
  (23, (.iload 4, 0, 0)),
  (25, (.aload_n 0, 0, 0)),
  (26, (.arraylength, 0, 0)),
  (27, (.iconst 4, 0, 0)),
  (28, (.isub, 0, 0)),
  (29, (.if_icmp .gt 703, 0, 732)),
  (32, (.aload_n 0, 0, 0)),
  (33, (.iload 4, 0, 0)),
  (35, (.iaload, 0, 0)),
  (36, (.bipush 15, 0, 0)),
  (38, (.iand, 0, 0)),
  (39, (.tableswitch 687 0 14 #[73, 173, 229, 309, 353, 378, 389, 414, 450, 475, 488, 532, 557, 625, 650], 73, 0)),
  (112, (.aload_n 1, 0, 0)),
  (113, (.aload_n 0, 0, 0)),
  (114, (.iload 4, 0, 0)),
  (116, (.iconst 1, 0, 0)),
  (117, (.iadd, 0, 0)),
  (118, (.iaload, 0, 0)),
  (119, (.aload_n 0, 0, 0)),
  (120, (.iload 4, 0, 0)),
  (122, (.iconst 2, 0, 0)),
  (123, (.iadd, 0, 0)),
  (124, (.iaload, 0, 0)),
  (125, (.i2l, 0, 0)),
  (126, (.bipush 32, 0, 0)),
  (128, (.lshl, 0, 0)),
  (129, (.aload_n 0, 0, 0)),
  (130, (.iload 4, 0, 0)),
  (132, (.iconst 3, 0, 0)),
  (133, (.iadd, 0, 0)),
  (134, (.iaload, 0, 0)),
  (135, (.i2l, 0, 0)),
  (136, (.ldc2_w 46, 0, 4294967295)),
  (139, (.land, 0, 0)),
  (140, (.lor, 0, 0)),
  (141, (.aload_n 3, 0, 0)),
  (142, (.invokestatic 48, 0, 996)),
  (145, (.istore 5, 0, 0)),
  (147, (.aload_n 2, 0, 0)),
  (148, (.aload_n 0, 0, 0)),
  (149, (.iload 4, 0, 0)),
  (151, (.iconst 1, 0, 0)),
  (152, (.iadd, 0, 0)),
  (153, (.iaload, 0, 0)),
  (154, (.aload_n 0, 0, 0)),
  (155, (.iload 4, 0, 0)),
  (157, (.iconst 2, 0, 0)),
  (158, (.iadd, 0, 0)),
  (159, (.iaload, 0, 0)),
  (160, (.i2l, 0, 0)),
  (161, (.bipush 32, 0, 0)),
  (163, (.lshl, 0, 0)),
  (164, (.aload_n 0, 0, 0)),
  (165, (.iload 4, 0, 0)),
  (167, (.iconst 3, 0, 0)),
  (168, (.iadd, 0, 0)),
  (169, (.iaload, 0, 0)),
  (170, (.i2l, 0, 0)),
  (171, (.ldc2_w 46, 0, 4294967295)),
  (174, (.land, 0, 0)),
  (175, (.lor, 0, 0)),
  (176, (.invokevirtual 53, 0, 81779)),
  (179, (.istore 6, 0, 0)),
  (181, (.aload_n 2, 0, 0)),
  (182, (.invokevirtual 54, 0, 81761)),
  (185, (.iload 5, 0, 0)),
  (187, (.if_icmp .eq 5, 0, 192)),
  (190, (.iconst 0, 0, 0)),
  (191, (.ireturn, 0, 1)),
  (192, (.iload 5, 0, 0)),
  (194, (.ifCond .ne 15, 0, 209)),
  (197, (.aload_n 3, 0, 0)),
  (198, (.iconst 0, 0, 0)),
  (199, (.laload, 0, 0)),
  (200, (.iload 6, 0, 0)),
  (202, (.i2l, 0, 0)),
  (203, (.lcmp, 0, 0)),
  (204, (.ifCond .eq 5, 0, 209)),
  (207, (.iconst 0, 0, 0)),
  (208, (.ireturn, 0, 1)),
  (209, (.goto 517, 0, 726)),
  (212, (.aload_n 1, 0, 0)),
  (213, (.aload_n 0, 0, 0)),
  (214, (.iload 4, 0, 0)),
  (216, (.iconst 1, 0, 0)),
  (217, (.iadd, 0, 0)),
  (218, (.iaload, 0, 0)),
  (219, (.aload_n 3, 0, 0)),
  (220, (.invokestatic 57, 0, 1059)),
  (223, (.istore 5, 0, 0)),
  (225, (.aload_n 2, 0, 0)),
  (226, (.aload_n 0, 0, 0)),
  (227, (.iload 4, 0, 0)),
  (229, (.iconst 1, 0, 0)),
  (230, (.iadd, 0, 0)),
  (231, (.iaload, 0, 0)),
  (232, (.invokevirtual 60, 0, 81794)),
  (235, (.istore 6, 0, 0)),
  (237, (.aload_n 2, 0, 0)),
  (238, (.invokevirtual 54, 0, 81761)),
  (241, (.iload 5, 0, 0)),
  (243, (.if_icmp .eq 5, 0, 248)),
  (246, (.iconst 0, 0, 0)),
  (247, (.ireturn, 0, 1)),
  (248, (.iload 5, 0, 0)),
  (250, (.ifCond .ne 15, 0, 265)),
  (253, (.aload_n 3, 0, 0)),
  (254, (.iconst 0, 0, 0)),
  (255, (.laload, 0, 0)),
  (256, (.iload 6, 0, 0)),
  (258, (.i2l, 0, 0)),
  (259, (.lcmp, 0, 0)),
  (260, (.ifCond .eq 5, 0, 265)),
  (263, (.iconst 0, 0, 0)),
  (264, (.ireturn, 0, 1)),
  (265, (.goto 461, 0, 726)),
  (268, (.aload_n 1, 0, 0)),
  (269, (.aload_n 0, 0, 0)),
  (270, (.iload 4, 0, 0)),
  (272, (.iconst 1, 0, 0)),
  (273, (.iadd, 0, 0)),
  (274, (.iaload, 0, 0)),
  (275, (.aload_n 0, 0, 0)),
  (276, (.iload 4, 0, 0)),
  (278, (.iconst 2, 0, 0)),
  (279, (.iadd, 0, 0)),
  (280, (.iaload, 0, 0)),
  (281, (.aload_n 0, 0, 0)),
  (282, (.iload 4, 0, 0)),
  (284, (.iconst 3, 0, 0)),
  (285, (.iadd, 0, 0)),
  (286, (.iaload, 0, 0)),
  (287, (.aload_n 3, 0, 0)),
  (288, (.invokestatic 61, 0, 1093)),
  (291, (.istore 5, 0, 0)),
  (293, (.aload_n 2, 0, 0)),
  (294, (.aload_n 0, 0, 0)),
  (295, (.iload 4, 0, 0)),
  (297, (.iconst 1, 0, 0)),
  (298, (.iadd, 0, 0)),
  (299, (.iaload, 0, 0)),
  (300, (.aload_n 0, 0, 0)),
  (301, (.iload 4, 0, 0)),
  (303, (.iconst 2, 0, 0)),
  (304, (.iadd, 0, 0)),
  (305, (.iaload, 0, 0)),
  (306, (.aload_n 0, 0, 0)),
  (307, (.iload 4, 0, 0)),
  (309, (.iconst 3, 0, 0)),
  (310, (.iadd, 0, 0)),
  (311, (.iaload, 0, 0)),
  (312, (.invokevirtual 64, 0, 81812)),
  (315, (.istore 6, 0, 0)),
  (317, (.aload_n 2, 0, 0)),
  (318, (.invokevirtual 54, 0, 81761)),
  (321, (.iload 5, 0, 0)),
  (323, (.if_icmp .eq 5, 0, 328)),
  (326, (.iconst 0, 0, 0)),
  (327, (.ireturn, 0, 1)),
  (328, (.iload 5, 0, 0)),
  (330, (.ifCond .ne 15, 0, 345)),
  (333, (.aload_n 3, 0, 0)),
  (334, (.iconst 0, 0, 0)),
  (335, (.laload, 0, 0)),
  (336, (.iload 6, 0, 0)),
  (338, (.i2l, 0, 0)),
  (339, (.lcmp, 0, 0)),
  (340, (.ifCond .eq 5, 0, 345)),
  (343, (.iconst 0, 0, 0)),
  (344, (.ireturn, 0, 1)),
  (345, (.goto 381, 0, 726)),
  (348, (.aload_n 1, 0, 0)),
  (349, (.aload_n 3, 0, 0)),
  (350, (.invokestatic 65, 0, 1186)),
  (353, (.istore 5, 0, 0)),
  (355, (.aload_n 2, 0, 0)),
  (356, (.invokevirtual 68, 0, 81841)),
  (359, (.istore 6, 0, 0)),
  (361, (.aload_n 2, 0, 0)),
  (362, (.invokevirtual 54, 0, 81761)),
  (365, (.iload 5, 0, 0)),
  (367, (.if_icmp .eq 5, 0, 372)),
  (370, (.iconst 0, 0, 0)),
  (371, (.ireturn, 0, 1)),
  (372, (.iload 5, 0, 0)),
  (374, (.ifCond .ne 15, 0, 389)),
  (377, (.aload_n 3, 0, 0)),
  (378, (.iconst 0, 0, 0)),
  (379, (.laload, 0, 0)),
  (380, (.iload 6, 0, 0)),
  (382, (.i2l, 0, 0)),
  (383, (.lcmp, 0, 0)),
  (384, (.ifCond .eq 5, 0, 389)),
  (387, (.iconst 0, 0, 0)),
  (388, (.ireturn, 0, 1)),
  (389, (.goto 337, 0, 726)),
  (392, (.aload_n 1, 0, 0)),
  (393, (.aload_n 0, 0, 0)),
  (394, (.iload 4, 0, 0)),
  (396, (.iconst 1, 0, 0)),
  (397, (.iadd, 0, 0)),
  (398, (.iaload, 0, 0)),
  (399, (.invokevirtual 69, 0, 82)),
  (402, (.aload_n 2, 0, 0)),
  (403, (.aload_n 0, 0, 0)),
  (404, (.iload 4, 0, 0)),
  (406, (.iconst 1, 0, 0)),
  (407, (.iadd, 0, 0)),
  (408, (.iaload, 0, 0)),
  (409, (.invokevirtual 72, 0, 82178)),
  (412, (.if_icmp .eq 314, 0, 726)),
  (415, (.iconst 0, 0, 0)),
  (416, (.ireturn, 0, 1)),
  (417, (.aload_n 1, 0, 0)),
  (418, (.invokevirtual 73, 0, 97)),
  (421, (.aload_n 2, 0, 0)),
  (422, (.invokevirtual 76, 0, 81825)),
  (425, (.goto 301, 0, 726)),
  (428, (.aload_n 1, 0, 0)),
  (429, (.aload_n 0, 0, 0)),
  (430, (.iload 4, 0, 0)),
  (432, (.iconst 1, 0, 0)),
  (433, (.iadd, 0, 0)),
  (434, (.iaload, 0, 0)),
  (435, (.invokevirtual 77, 0, 194)),
  (438, (.aload_n 2, 0, 0)),
  (439, (.aload_n 0, 0, 0)),
  (440, (.iload 4, 0, 0)),
  (442, (.iconst 1, 0, 0)),
  (443, (.iadd, 0, 0)),
  (444, (.iaload, 0, 0)),
  (445, (.invokevirtual 80, 0, 82194)),
  (448, (.if_icmp .eq 278, 0, 726)),
  (451, (.iconst 0, 0, 0)),
  (452, (.ireturn, 0, 1)),
  (453, (.aload_n 1, 0, 0)),
  (454, (.aload_n 0, 0, 0)),
  (455, (.iload 4, 0, 0)),
  (457, (.iconst 1, 0, 0)),
  (458, (.iadd, 0, 0)),
  (459, (.iaload, 0, 0)),
  (460, (.invokestatic 81, 0, 1586)),
  (463, (.istore 5, 0, 0)),
  (465, (.aload_n 2, 0, 0)),
  (466, (.aload_n 0, 0, 0)),
  (467, (.iload 4, 0, 0)),
  (469, (.iconst 1, 0, 0)),
  (470, (.iadd, 0, 0)),
  (471, (.iaload, 0, 0)),
  (472, (.invokevirtual 84, 0, 82210)),
  (475, (.aload_n 2, 0, 0)),
  (476, (.invokevirtual 54, 0, 81761)),
  (479, (.iload 5, 0, 0)),
  (481, (.if_icmp .eq 5, 0, 486)),
  (484, (.iconst 0, 0, 0)),
  (485, (.ireturn, 0, 1)),
  (486, (.goto 240, 0, 726)),
  (489, (.aload_n 1, 0, 0)),
  (490, (.aload_n 0, 0, 0)),
  (491, (.iload 4, 0, 0)),
  (493, (.iconst 1, 0, 0)),
  (494, (.iadd, 0, 0)),
  (495, (.iaload, 0, 0)),
  (496, (.invokevirtual 85, 0, 210)),
  (499, (.aload_n 2, 0, 0)),
  (500, (.aload_n 0, 0, 0)),
  (501, (.iload 4, 0, 0)),
  (503, (.iconst 1, 0, 0)),
  (504, (.iadd, 0, 0)),
  (505, (.iaload, 0, 0)),
  (506, (.invokevirtual 88, 0, 82242)),
  (509, (.if_icmp .eq 217, 0, 726)),
  (512, (.iconst 0, 0, 0)),
  (513, (.ireturn, 0, 1)),
  (514, (.aload_n 1, 0, 0)),
  (515, (.invokevirtual 89, 0, 929)),
  (518, (.aload_n 2, 0, 0)),
  (519, (.invokevirtual 93, 0, 82609)),
  (522, (.if_icmp .eq 204, 0, 726)),
  (525, (.iconst 0, 0, 0)),
  (526, (.ireturn, 0, 1)),
  (527, (.aload_n 1, 0, 0)),
  (528, (.aload_n 3, 0, 0)),
  (529, (.invokestatic 94, 0, 1634)),
  (532, (.istore 5, 0, 0)),
  (534, (.aload_n 2, 0, 0)),
  (535, (.invokevirtual 96, 0, 82625)),
  (538, (.istore 6, 0, 0)),
  (540, (.aload_n 2, 0, 0)),
  (541, (.invokevirtual 54, 0, 81761)),
  (544, (.iload 5, 0, 0)),
  (546, (.if_icmp .eq 5, 0, 551)),
  (549, (.iconst 0, 0, 0)),
  (550, (.ireturn, 0, 1)),
  (551, (.iload 5, 0, 0)),
  (553, (.ifCond .ne 15, 0, 568)),
  (556, (.aload_n 3, 0, 0)),
  (557, (.iconst 0, 0, 0)),
  (558, (.laload, 0, 0)),
  (559, (.iload 6, 0, 0)),
  (561, (.i2l, 0, 0)),
  (562, (.lcmp, 0, 0)),
  (563, (.ifCond .eq 5, 0, 568)),
  (566, (.iconst 0, 0, 0)),
  (567, (.ireturn, 0, 1)),
  (568, (.goto 158, 0, 726)),
  (571, (.aload_n 1, 0, 0)),
  (572, (.aload_n 0, 0, 0)),
  (573, (.iload 4, 0, 0)),
  (575, (.iconst 1, 0, 0)),
  (576, (.iadd, 0, 0)),
  (577, (.iaload, 0, 0)),
  (578, (.invokevirtual 97, 0, 946)),
  (581, (.aload_n 2, 0, 0)),
  (582, (.aload_n 0, 0, 0)),
  (583, (.iload 4, 0, 0)),
  (585, (.iconst 1, 0, 0)),
  (586, (.iadd, 0, 0)),
  (587, (.iaload, 0, 0)),
  (588, (.invokevirtual 100, 0, 82642)),
  (591, (.if_icmp .eq 135, 0, 726)),
  (594, (.iconst 0, 0, 0)),
  (595, (.ireturn, 0, 1)),
  (596, (.aload_n 1, 0, 0)),
  (597, (.aload_n 0, 0, 0)),
  (598, (.iload 4, 0, 0)),
  (600, (.iconst 1, 0, 0)),
  (601, (.iadd, 0, 0)),
  (602, (.iaload, 0, 0)),
  (603, (.aload_n 0, 0, 0)),
  (604, (.iload 4, 0, 0)),
  (606, (.iconst 2, 0, 0)),
  (607, (.iadd, 0, 0)),
  (608, (.iaload, 0, 0)),
  (609, (.aload_n 3, 0, 0)),
  (610, (.invokestatic 101, 0, 1668)),
  (613, (.istore 5, 0, 0)),
  (615, (.aload_n 2, 0, 0)),
  (616, (.aload_n 0, 0, 0)),
  (617, (.iload 4, 0, 0)),
  (619, (.iconst 1, 0, 0)),
  (620, (.iadd, 0, 0)),
  (621, (.iaload, 0, 0)),
  (622, (.aload_n 0, 0, 0)),
  (623, (.iload 4, 0, 0)),
  (625, (.iconst 2, 0, 0)),
  (626, (.iadd, 0, 0)),
  (627, (.iaload, 0, 0)),
  (628, (.invokevirtual 104, 0, 82659)),
  (631, (.istore 6, 0, 0)),
  (633, (.aload_n 2, 0, 0)),
  (634, (.invokevirtual 54, 0, 81761)),
  (637, (.iload 5, 0, 0)),
  (639, (.if_icmp .eq 5, 0, 644)),
  (642, (.iconst 0, 0, 0)),
  (643, (.ireturn, 0, 1)),
  (644, (.iload 5, 0, 0)),
  (646, (.ifCond .ne 15, 0, 661)),
  (649, (.aload_n 3, 0, 0)),
  (650, (.iconst 0, 0, 0)),
  (651, (.laload, 0, 0)),
  (652, (.iload 6, 0, 0)),
  (654, (.i2l, 0, 0)),
  (655, (.lcmp, 0, 0)),
  (656, (.ifCond .eq 5, 0, 661)),
  (659, (.iconst 0, 0, 0)),
  (660, (.ireturn, 0, 1)),
  (661, (.goto 65, 0, 726)),
  (664, (.aload_n 1, 0, 0)),
  (665, (.aload_n 0, 0, 0)),
  (666, (.iload 4, 0, 0)),
  (668, (.iconst 1, 0, 0)),
  (669, (.iadd, 0, 0)),
  (670, (.iaload, 0, 0)),
  (671, (.invokevirtual 105, 0, 962)),
  (674, (.aload_n 2, 0, 0)),
  (675, (.aload_n 0, 0, 0)),
  (676, (.iload 4, 0, 0)),
  (678, (.iconst 1, 0, 0)),
  (679, (.iadd, 0, 0)),
  (680, (.iaload, 0, 0)),
  (681, (.invokevirtual 108, 0, 82674)),
  (684, (.if_icmp .eq 42, 0, 726)),
  (687, (.iconst 0, 0, 0)),
  (688, (.ireturn, 0, 1)),
  (689, (.aload_n 1, 0, 0)),
  (690, (.aload_n 0, 0, 0)),
  (691, (.iload 4, 0, 0)),
  (693, (.iconst 1, 0, 0)),
  (694, (.iadd, 0, 0)),
  (695, (.iaload, 0, 0)),
  (696, (.aload_n 0, 0, 0)),
  (697, (.iload 4, 0, 0)),
  (699, (.iconst 2, 0, 0)),
  (700, (.iadd, 0, 0)),
  (701, (.iaload, 0, 0)),
  (702, (.invokevirtual 109, 0, 979)),
  (705, (.aload_n 2, 0, 0)),
  (706, (.aload_n 0, 0, 0)),
  (707, (.iload 4, 0, 0)),
  (709, (.iconst 1, 0, 0)),
  (710, (.iadd, 0, 0)),
  (711, (.iaload, 0, 0)),
  (712, (.aload_n 0, 0, 0)),
  (713, (.iload 4, 0, 0)),
  (715, (.iconst 2, 0, 0)),
  (716, (.iadd, 0, 0)),
  (717, (.iaload, 0, 0)),
  (718, (.invokevirtual 113, 0, 82691)),
  (721, (.if_icmp .eq 5, 0, 726)),
  (724, (.iconst 0, 0, 0)),
  (725, (.ireturn, 0, 1)),
  (726, (.iinc 4 4, 0, 0)),
  (729, (.goto (-706), 0, 23)),
  (732, (.iconst 1, 0, 0)),
  (733, (.ireturn, 0, 1))], [])
def xPL : List xM := [M_0, M_1, M_2, M_3, M_4, M_5, M_6, M_7, M_8, M_9, M_10, M_11, M_12, M_13, M_14, M_15, M_16, M_17, M_18, M_19, M_20, M_21, M_22, M_23, M_24, M_25, M_26, M_27, M_28, M_29, M_30, M_31, M_32, M_33, M_34, M_35, M_36, M_37, M_38, M_39, M_40, M_41, M_42, M_43, M_44, M_45, M_46, M_47, M_48, M_49, M_50, M_51, M_52, M_53, M_54, M_55, M_56, M_57, M_58, M_59, M_60, M_61, M_62, M_63, M_64, M_65, M_66, M_67, M_68, M_69, M_70, M_71, M_72, M_73, M_74, M_75, M_76, M_77, M_78, M_79, M_80, M_81, M_82, M_83, M_84, M_85, M_86, M_87, M_88, M_89, M_90, M_91, M_92, M_93, M_94, M_95, M_96, M_97, M_98, M_99, M_100, M_101, M_102, M_103, M_104, M_105, M_106, M_107, M_108, M_109, M_110, M_111, M_112, M_113, M_114, M_115, M_116, M_117, M_118, M_119, M_120, M_121, M_122, M_123, M_124, M_125, M_126, M_127, M_128, M_129, M_130, M_131, M_132, M_133, M_134, M_135, M_136, M_137, M_138, M_139, M_140, M_141, M_142, M_143, M_144, M_145, M_146, M_147, M_148, M_149, M_150, M_151, M_152, M_153, M_154, M_155, M_156, M_157, M_158, M_159, M_160, M_161, M_162, M_163, M_164, M_165, M_166, M_167, M_168]
def xP (i : Nat) : xM := bif Nat.beq i 999 then M_169 else xPL.getD i M_0
end
section
/-! Locals that are dead, at the places where blocks begin. -/
def xml_0 : List (Nat × Nat) := [(0, 6), (11, 6), (19, 4), (52, 6)]
def xml_1 : List (Nat × Nat) := []
def xml_2 : List (Nat × Nat) := []
def xml_3 : List (Nat × Nat) := []
def xml_4 : List (Nat × Nat) := []
def xml_5 : List (Nat × Nat) := [(4, 2), (14, 2), (21, 3), (22, 3)]
def xml_6 : List (Nat × Nat) := []
def xml_7 : List (Nat × Nat) := []
def xml_8 : List (Nat × Nat) := []
def xml_9 : List (Nat × Nat) := [(0, 12), (20, 15)]
def xml_10 : List (Nat × Nat) := [(8, 1)]
def xml_11 : List (Nat × Nat) := [(0, 12), (20, 15)]
def xml_12 : List (Nat × Nat) := [(8, 3)]
def xml_13 : List (Nat × Nat) := [(0, 4), (4, 4), (11, 7), (13, 4), (45, 3)]
def xml_14 : List (Nat × Nat) := [(0, 6), (41, 7), (54, 7), (67, 7), (74, 4), (89, 7), (92, 2), (97, 7)]
def xml_15 : List (Nat × Nat) := [(0, 4), (9, 4), (15, 4), (26, 3), (30, 7), (34, 7), (35, 7)]
def xml_16 : List (Nat × Nat) := [(280, 1), (282, 1), (284, 1), (286, 1), (288, 1), (290, 1), (292, 1), (295, 1), (298, 1), (305, 1), (308, 1), (312, 1), (313, 1)]
def xml_17 : List (Nat × Nat) := [(24, 1), (28, 1), (29, 1)]
def xml_18 : List (Nat × Nat) := [(84, 7), (86, 2), (90, 2), (93, 7), (97, 2), (102, 7), (103, 2), (118, 6), (144, 6), (148, 7), (151, 7), (152, 7), (153, 2), (160, 7), (161, 2), (165, 2), (168, 2), (175, 7), (178, 7), (179, 7), (180, 2), (188, 2), (202, 7), (206, 7), (207, 6), (211, 7), (212, 2), (227, 7), (228, 7)]
def xml_19 : List (Nat × Nat) := []
def xml_20 : List (Nat × Nat) := [(0, 4), (16, 4), (28, 3), (31, 7)]
def xml_21 : List (Nat × Nat) := [(0, 6), (55, 7), (57, 2), (63, 6), (67, 7), (70, 7), (71, 7)]
def xml_22 : List (Nat × Nat) := []
def xml_23 : List (Nat × Nat) := [(0, 12), (15, 14), (19, 15), (20, 10), (33, 10), (37, 10), (38, 10), (65, 2), (69, 2), (80, 2), (83, 2), (88, 11), (94, 10), (105, 15)]
def xml_24 : List (Nat × Nat) := [(8, 2), (12, 1), (13, 3)]
def xml_25 : List (Nat × Nat) := [(11, 3)]
def xml_26 : List (Nat × Nat) := [(5, 3), (14, 3), (18, 3), (19, 3)]
def xml_27 : List (Nat × Nat) := [(0, 12), (9, 15), (12, 12), (83, 8), (123, 15)]
def xml_28 : List (Nat × Nat) := []
def xml_29 : List (Nat × Nat) := [(0, 16), (7, 16), (10, 2), (16, 2), (27, 31)]
def xml_30 : List (Nat × Nat) := [(59, 2), (67, 3), (73, 7)]
def xml_31 : List (Nat × Nat) := [(4, 3), (16, 3)]
def xml_32 : List (Nat × Nat) := [(0, 8), (6, 14), (18, 8), (24, 14), (28, 15), (29, 8), (72, 6), (82, 15), (86, 15), (87, 6), (96, 14), (100, 15), (103, 6), (112, 14), (126, 6), (136, 15), (137, 6), (146, 15)]
def xml_33 : List (Nat × Nat) := [(0, 6), (4, 6), (9, 4), (14, 2), (26, 7)]
def xml_34 : List (Nat × Nat) := [(9, 3)]
def xml_35 : List (Nat × Nat) := [(60, 6), (71, 7), (72, 6), (81, 7), (84, 7), (87, 7), (93, 2), (107, 7), (124, 7)]
def xml_36 : List (Nat × Nat) := [(0, 4), (10, 4), (13, 7), (15, 4)]
def xml_37 : List (Nat × Nat) := [(80, 1), (82, 1), (84, 1)]
def xml_38 : List (Nat × Nat) := [(0, 24), (14, 24), (27, 20), (30, 31), (32, 20), (53, 30)]
def xml_39 : List (Nat × Nat) := []
def xml_40 : List (Nat × Nat) := [(0, 4), (6, 4), (22, 15), (26, 15), (27, 15)]
def xml_41 : List (Nat × Nat) := [(0, 16), (32, 31)]
def xml_42 : List (Nat × Nat) := [(0, 120), (4, 120), (19, 112), (34, 100), (37, 127), (39, 100), (50, 124), (58, 62), (66, 60), (72, 62), (77, 62)]
def xml_43 : List (Nat × Nat) := [(0, 24), (7, 4), (12, 4), (37, 23)]
def xml_44 : List (Nat × Nat) := [(0, 28), (16, 24), (19, 24), (34, 31), (37, 24), (53, 16), (56, 16), (63, 31), (64, 16), (70, 16), (74, 16), (75, 16), (83, 17), (89, 31), (92, 17), (98, 31), (101, 31)]
def xml_45 : List (Nat × Nat) := [(24, 1), (28, 1), (29, 1)]
def xml_46 : List (Nat × Nat) := [(28, 1), (32, 3), (33, 1), (37, 3), (38, 1), (42, 3), (43, 1), (47, 3), (51, 3), (52, 3)]
def xml_47 : List (Nat × Nat) := [(0, 2), (4, 2), (8, 3), (13, 3), (14, 3), (15, 2)]
def xml_48 : List (Nat × Nat) := [(0, 2), (12, 2), (17, 2)]
def xml_49 : List (Nat × Nat) := []
def xml_50 : List (Nat × Nat) := [(12, 1), (16, 1), (17, 1)]
def xml_51 : List (Nat × Nat) := [(4, 15), (23, 15), (32, 15), (35, 15)]
def xml_52 : List (Nat × Nat) := [(4, 7), (32, 1), (36, 1), (40, 1), (44, 3), (48, 7), (51, 1), (55, 3), (59, 7)]
def xml_53 : List (Nat × Nat) := []
def xml_54 : List (Nat × Nat) := [(6, 7), (9, 7), (13, 7), (14, 7)]
def xml_55 : List (Nat × Nat) := [(52, 1), (57, 7), (61, 7), (62, 7), (63, 1), (68, 7), (72, 7), (73, 7), (74, 1), (79, 7), (83, 7), (84, 7), (85, 1), (90, 7), (93, 7), (97, 7), (98, 7), (99, 1), (104, 7), (108, 7), (109, 7), (110, 1), (115, 7), (118, 7), (122, 7), (123, 7), (124, 1), (129, 7), (133, 7), (134, 7), (135, 1), (140, 7), (143, 7), (147, 7), (148, 7), (149, 1), (154, 7), (158, 7), (159, 7), (160, 1), (165, 7), (168, 7), (172, 7), (173, 7)]
def xml_56 : List (Nat × Nat) := [(72, 1), (76, 1), (80, 1), (84, 1), (88, 1), (92, 1), (96, 1), (100, 1), (104, 1), (108, 1), (117, 1)]
def xml_57 : List (Nat × Nat) := [(5, 2), (27, 3)]
def xml_58 : List (Nat × Nat) := [(8, 1)]
def xml_59 : List (Nat × Nat) := [(0, 4), (8, 4), (12, 4), (13, 4), (56, 6), (61, 6), (69, 6), (76, 7), (77, 7), (78, 2), (82, 6), (92, 7), (93, 7), (94, 2), (98, 6), (108, 7), (109, 7), (110, 2), (114, 6), (124, 7), (125, 7), (126, 6), (134, 6), (142, 7)]
def xml_60 : List (Nat × Nat) := [(22, 3), (25, 3), (26, 3)]
def xml_61 : List (Nat × Nat) := [(21, 7), (33, 7)]
def xml_62 : List (Nat × Nat) := [(0, 40), (9, 63), (14, 63), (18, 63), (22, 63)]
def xml_63 : List (Nat × Nat) := [(0, 24), (5, 24), (11, 31), (21, 24), (28, 24), (36, 24), (39, 31), (49, 24), (54, 10), (59, 10), (78, 10), (84, 30)]
def xml_64 : List (Nat × Nat) := [(12, 3), (16, 3), (17, 3)]
def xml_65 : List (Nat × Nat) := []
def xml_66 : List (Nat × Nat) := [(0, 8), (7, 15), (12, 15), (15, 15)]
def xml_67 : List (Nat × Nat) := [(18, 3), (36, 2)]
def xml_68 : List (Nat × Nat) := [(0, 32), (10, 63), (15, 63), (19, 63), (23, 63)]
def xml_69 : List (Nat × Nat) := [(9, 15), (46, 15), (66, 15)]
def xml_70 : List (Nat × Nat) := [(9, 1), (13, 1), (18, 3), (22, 3), (27, 7), (31, 7), (32, 7)]
def xml_71 : List (Nat × Nat) := [(9, 1), (13, 1), (14, 1)]
def xml_72 : List (Nat × Nat) := [(12, 1), (15, 1), (19, 1), (20, 1)]
def xml_73 : List (Nat × Nat) := [(0, 16)]
def xml_74 : List (Nat × Nat) := [(0, 4), (6, 7), (11, 7), (14, 7)]
def xml_75 : List (Nat × Nat) := [(0, 2), (7, 2), (17, 2), (24, 2), (27, 3), (37, 2), (44, 2), (79, 1)]
def xml_76 : List (Nat × Nat) := [(0, 2), (36, 2)]
def xml_77 : List (Nat × Nat) := [(0, 12), (14, 12), (55, 14), (65, 10), (69, 10), (80, 10), (98, 2), (101, 2), (108, 2), (113, 10), (120, 15), (121, 10), (137, 10), (147, 14), (154, 14), (159, 15)]
def xml_78 : List (Nat × Nat) := [(9, 14), (15, 15), (84, 6), (107, 15)]
def xml_79 : List (Nat × Nat) := [(12, 3)]
def xml_80 : List (Nat × Nat) := [(4, 3), (23, 2), (28, 3), (36, 2), (41, 3), (44, 3), (52, 2), (62, 3), (71, 2), (74, 2), (77, 2), (82, 3)]
def xml_81 : List (Nat × Nat) := []
def xml_82 : List (Nat × Nat) := [(0, 4), (4, 4), (10, 6), (15, 7), (18, 4), (33, 6), (38, 7), (41, 4), (66, 7)]
def xml_83 : List (Nat × Nat) := [(0, 4), (22, 6), (27, 7), (52, 7)]
def xml_84 : List (Nat × Nat) := [(44, 3), (48, 3), (53, 7), (57, 7), (58, 7), (59, 2), (67, 7), (68, 2), (72, 2), (88, 7), (92, 7), (93, 7), (94, 3), (98, 3), (103, 7), (107, 7), (108, 7), (109, 3), (113, 7), (117, 7), (118, 7), (119, 7)]
def xml_85 : List (Nat × Nat) := [(12, 3), (16, 3), (17, 3)]
def xml_86 : List (Nat × Nat) := [(84, 2), (88, 3), (102, 2), (109, 3), (118, 2), (125, 3), (128, 2), (132, 3), (135, 2), (139, 3), (142, 2), (153, 2), (156, 2), (160, 3), (163, 2), (168, 2), (179, 2), (189, 3), (192, 3), (195, 2), (200, 3), (203, 3), (206, 2), (222, 2), (226, 3), (229, 2), (241, 2), (253, 3), (257, 3), (265, 1), (269, 3), (272, 3)]
def xml_87 : List (Nat × Nat) := []
def xml_88 : List (Nat × Nat) := [(0, 12), (60, 15)]
def xml_89 : List (Nat × Nat) := [(0, 2), (17, 2), (22, 3)]
def xml_90 : List (Nat × Nat) := [(23, 2), (28, 3)]
def xml_91 : List (Nat × Nat) := [(0, 2), (43, 3), (79, 3), (82, 2), (95, 2), (101, 3)]
def xml_92 : List (Nat × Nat) := [(0, 4), (12, 7), (36, 2), (57, 7)]
def xml_93 : List (Nat × Nat) := [(11, 2), (17, 3), (30, 3)]
def xml_94 : List (Nat × Nat) := [(0, 4), (27, 7), (31, 2), (37, 7)]
def xml_95 : List (Nat × Nat) := [(5, 2), (10, 7)]
def xml_96 : List (Nat × Nat) := [(0, 12), (10, 12), (45, 10), (50, 10), (55, 14), (59, 15)]
def xml_97 : List (Nat × Nat) := [(172, 1), (174, 1), (176, 1), (185, 1), (193, 1), (196, 1), (200, 1), (201, 1)]
def xml_98 : List (Nat × Nat) := [(68, 1), (70, 1)]
def xml_99 : List (Nat × Nat) := [(0, 4), (5, 7), (8, 7), (11, 7), (14, 7), (17, 7)]
def xml_100 : List (Nat × Nat) := [(15, 3), (36, 3), (62, 3), (84, 2)]
def xml_101 : List (Nat × Nat) := [(37, 7)]
def xml_102 : List (Nat × Nat) := [(0, 4), (6, 7), (11, 7), (14, 7)]
def xml_103 : List (Nat × Nat) := [(8, 1)]
def xml_104 : List (Nat × Nat) := [(0, 16), (8, 31), (13, 31), (17, 31)]
def xml_105 : List (Nat × Nat) := [(13, 7), (27, 2), (42, 2), (50, 7), (53, 2), (62, 7)]
def xml_106 : List (Nat × Nat) := [(5, 2), (22, 3), (28, 2), (41, 2), (48, 3), (51, 3), (52, 3)]
def xml_107 : List (Nat × Nat) := []
def xml_108 : List (Nat × Nat) := [(9, 3)]
def xml_109 : List (Nat × Nat) := []
def xml_110 : List (Nat × Nat) := []
def xml_111 : List (Nat × Nat) := [(0, 24), (6, 24), (12, 24), (16, 24), (23, 24), (35, 24), (39, 24), (40, 24), (50, 31), (52, 24), (57, 10), (62, 10), (99, 30)]
def xml_112 : List (Nat × Nat) := [(33, 3)]
def xml_113 : List (Nat × Nat) := [(79, 15)]
def xml_114 : List (Nat × Nat) := [(0, 2), (62, 2), (82, 3)]
def xml_115 : List (Nat × Nat) := [(0, 6), (8, 6), (15, 6), (31, 6), (35, 6), (36, 6), (46, 7), (48, 6), (60, 4), (68, 4), (73, 4), (93, 4), (99, 6)]
def xml_116 : List (Nat × Nat) := [(0, 12), (34, 8), (36, 4), (48, 4), (55, 4), (62, 4), (65, 4), (72, 4), (78, 4), (85, 7), (87, 4), (93, 12), (98, 6), (105, 6), (110, 7), (112, 15)]
def xml_117 : List (Nat × Nat) := [(0, 16), (119, 30), (125, 31)]
def xml_118 : List (Nat × Nat) := [(8, 1), (12, 2), (16, 3)]
def xml_119 : List (Nat × Nat) := [(0, 120), (22, 96), (25, 96), (33, 96), (38, 127), (40, 96), (45, 96), (48, 96), (59, 96), (60, 96), (71, 66), (74, 127), (76, 66), (83, 66), (93, 127), (95, 74), (98, 10), (105, 10), (120, 10), (123, 127), (125, 10), (131, 78), (138, 78), (145, 94), (151, 127), (154, 127), (158, 127), (159, 127)]
def xml_120 : List (Nat × Nat) := [(117, 1), (121, 1), (122, 1)]
def xml_121 : List (Nat × Nat) := [(88, 1), (92, 1), (93, 1)]
def xml_122 : List (Nat × Nat) := [(10, 7), (14, 7), (19, 15), (23, 15), (24, 15), (31, 7), (35, 7), (41, 15), (45, 15), (46, 15), (53, 6), (57, 6), (65, 15), (69, 15), (70, 15), (83, 4), (87, 4), (104, 15), (108, 15), (109, 15), (110, 3), (116, 3), (122, 7), (126, 7), (131, 15), (135, 15), (136, 15), (137, 3), (143, 3), (149, 7), (153, 15), (157, 15), (158, 15)]
def xml_123 : List (Nat × Nat) := [(12, 3), (16, 3), (17, 3)]
def xml_124 : List (Nat × Nat) := [(0, 56), (11, 48), (14, 48), (25, 48), (26, 48), (43, 32), (48, 32), (53, 32), (58, 34), (66, 63), (69, 32), (74, 58), (79, 63), (82, 32), (88, 56), (94, 63), (97, 32), (103, 46), (115, 62), (118, 62), (121, 62), (125, 63), (128, 32), (134, 46), (145, 62), (148, 62), (155, 30), (161, 30), (167, 63), (170, 32), (176, 58), (181, 63), (184, 36), (190, 60), (200, 62), (204, 63), (207, 38), (211, 62), (215, 63), (218, 38), (224, 46), (235, 46), (246, 63), (249, 54), (254, 54), (257, 54), (262, 63), (265, 63)]
def xml_125 : List (Nat × Nat) := [(0, 4), (59, 7)]
def xml_126 : List (Nat × Nat) := [(13, 2), (18, 3)]
def xml_127 : List (Nat × Nat) := [(0, 8), (86, 6), (96, 15), (99, 8), (113, 14), (119, 15)]
def xml_128 : List (Nat × Nat) := [(19, 2), (25, 3)]
def xml_129 : List (Nat × Nat) := [(0, 24), (5, 2), (11, 2), (18, 2), (31, 23)]
def xml_130 : List (Nat × Nat) := [(10, 3), (20, 3)]
def xml_131 : List (Nat × Nat) := []
def xml_132 : List (Nat × Nat) := [(0, 28), (26, 24), (29, 24), (77, 22), (82, 22), (87, 30), (91, 31)]
def xml_133 : List (Nat × Nat) := [(6, 1), (46, 1), (79, 1), (83, 1), (84, 1)]
def xml_134 : List (Nat × Nat) := [(41, 1), (45, 1), (46, 1)]
def xml_135 : List (Nat × Nat) := [(34, 3), (35, 3)]
def xml_136 : List (Nat × Nat) := [(9, 2), (21, 2), (28, 3), (29, 3)]
def xml_137 : List (Nat × Nat) := [(13, 3)]
def xml_138 : List (Nat × Nat) := [(0, 4), (8, 4), (16, 4), (20, 4), (24, 4), (32, 4), (36, 4), (37, 4), (47, 7), (48, 4), (61, 6), (67, 4), (118, 4), (129, 7)]
def xml_139 : List (Nat × Nat) := [(0, 24), (47, 4), (54, 4), (76, 4), (91, 4), (92, 4), (99, 20)]
def xml_140 : List (Nat × Nat) := [(0, 4), (9, 4), (16, 7), (18, 4), (43, 3)]
def xml_141 : List (Nat × Nat) := [(0, 6), (16, 4), (26, 6), (32, 4), (36, 4), (39, 4), (53, 4), (54, 4), (72, 7), (81, 7)]
def xml_142 : List (Nat × Nat) := [(0, 28), (7, 28), (21, 28), (22, 28), (31, 24), (45, 24), (46, 24), (51, 31), (53, 16), (59, 16), (65, 17), (69, 31), (73, 17), (79, 19), (84, 23), (90, 31), (94, 31), (95, 31), (96, 16), (100, 16), (103, 16), (107, 16), (110, 16), (115, 17), (118, 25), (122, 21), (123, 29), (127, 31), (130, 31), (134, 31), (135, 31), (136, 28), (142, 28), (148, 28), (154, 28), (160, 28), (164, 28), (165, 28), (172, 28), (181, 31), (185, 28), (191, 30), (200, 31), (205, 31), (206, 31)]
def xml_143 : List (Nat × Nat) := [(18, 1), (22, 1), (23, 1)]
def xml_144 : List (Nat × Nat) := [(18, 1), (22, 1), (23, 1)]
def xml_145 : List (Nat × Nat) := [(0, 24), (25, 22), (39, 31), (43, 23), (45, 31)]
def xml_146 : List (Nat × Nat) := [(12, 1), (34, 1), (38, 1), (39, 1)]
def xml_147 : List (Nat × Nat) := [(0, 8), (15, 6), (38, 14), (47, 6), (56, 6), (67, 6), (73, 15), (79, 8), (84, 14), (105, 8), (111, 14), (128, 14), (132, 15), (135, 14), (148, 8), (154, 10), (159, 15), (162, 8), (168, 10), (190, 10), (195, 15), (198, 14), (211, 8), (217, 14), (221, 15), (224, 8), (230, 14), (234, 15), (237, 8), (243, 10), (254, 15), (257, 14), (267, 15)]
def xml_148 : List (Nat × Nat) := [(0, 6), (49, 2), (64, 6), (73, 7), (74, 7), (77, 7)]
def xml_149 : List (Nat × Nat) := [(0, 8), (34, 8)]
def xml_150 : List (Nat × Nat) := [(0, 4), (14, 6), (24, 6), (28, 7), (29, 2), (53, 2), (56, 2), (67, 2), (78, 2), (86, 7)]
def xml_151 : List (Nat × Nat) := [(0, 6), (47, 1), (52, 5), (56, 3), (57, 7), (62, 7)]
def xml_152 : List (Nat × Nat) := [(0, 56), (4, 56), (12, 48), (26, 48), (27, 48), (33, 32), (36, 44), (43, 60), (46, 32), (51, 44), (76, 60), (90, 60), (99, 60), (103, 32), (108, 44), (147, 12), (155, 60), (158, 60), (162, 60), (166, 12), (172, 12), (178, 12), (186, 60), (189, 12), (197, 60), (201, 48), (206, 56), (212, 60), (215, 56), (220, 56), (226, 60), (236, 63)]
def xml_153 : List (Nat × Nat) := [(0, 56), (16, 56), (23, 4), (29, 4), (32, 4), (60, 62)]
def xml_154 : List (Nat × Nat) := [(52, 1), (57, 7), (61, 7), (62, 7), (63, 1), (68, 7), (72, 7), (73, 7), (74, 1), (79, 7), (83, 7), (84, 7), (85, 1), (90, 7), (91, 1), (96, 7), (100, 7), (101, 7), (102, 1), (107, 7), (108, 1), (113, 7), (117, 7), (118, 7), (119, 1), (124, 7), (127, 7), (131, 7), (132, 7), (133, 1), (138, 7), (142, 7), (143, 7), (144, 1), (149, 7), (152, 7), (156, 7), (157, 7)]
def xml_155 : List (Nat × Nat) := [(11, 3), (15, 3), (16, 3)]
def xml_156 : List (Nat × Nat) := [(0, 120), (21, 121), (27, 80), (33, 87), (41, 80), (47, 121), (52, 127), (56, 121), (62, 87), (67, 127)]
def xml_157 : List (Nat × Nat) := [(72, 1), (76, 1), (80, 1), (84, 1), (88, 1), (92, 1), (96, 1), (100, 1), (104, 1), (108, 1), (122, 1)]
def xml_158 : List (Nat × Nat) := [(0, 24), (63, 2), (76, 16), (82, 18), (92, 20), (98, 20), (114, 22), (119, 31), (122, 20), (128, 23), (132, 31), (136, 31), (140, 20), (144, 20), (147, 20), (155, 31), (158, 31), (161, 21), (166, 31), (167, 31)]
def xml_159 : List (Nat × Nat) := [(0, 4), (19, 7)]
def xml_160 : List (Nat × Nat) := [(0, 56), (4, 56), (13, 8), (18, 8), (41, 45), (47, 47), (58, 45), (64, 47), (75, 47), (77, 63)]
def xml_161 : List (Nat × Nat) := [(0, 124), (12, 64), (19, 64), (29, 64), (33, 64), (34, 64), (41, 4), (50, 4), (62, 8), (68, 8), (76, 80), (80, 80), (81, 80), (90, 98), (96, 123), (100, 102), (106, 119), (110, 111), (112, 127)]
def xml_162 : List (Nat × Nat) := [(0, 8), (35, 10), (39, 14), (40, 14), (45, 8), (51, 8), (61, 10), (65, 14), (66, 14), (70, 8), (76, 14), (83, 10), (84, 14)]
def xml_163 : List (Nat × Nat) := [(0, 2), (13, 2), (17, 2), (18, 2), (24, 1), (32, 1)]
def xml_164 : List (Nat × Nat) := [(32, 1), (33, 1)]
def xml_165 : List (Nat × Nat) := [(0, 4), (13, 4), (17, 4), (18, 4), (64, 6), (69, 6), (77, 6), (84, 7), (85, 7), (86, 2), (90, 6), (97, 7), (98, 7), (99, 2), (103, 6), (110, 7), (111, 7), (112, 2), (116, 6), (123, 7), (124, 7), (125, 6), (130, 6), (135, 7)]
def xml_166 : List (Nat × Nat) := [(0, 120), (8, 120), (12, 120), (13, 120), (18, 112), (27, 112), (28, 112), (43, 64), (47, 104), (54, 64), (59, 64), (63, 72), (81, 104), (86, 104), (90, 104), (91, 104), (98, 40), (104, 104), (108, 104), (109, 104), (119, 127), (121, 104), (125, 122), (134, 104), (139, 106), (154, 122), (160, 127)]
def xml_167 : List (Nat × Nat) := [(20, 3), (30, 3)]
def xml_168 : List (Nat × Nat) := [(28, 7)]
def xml_169 : List (Nat × Nat) := [(0, 126), (7, 126), (15, 124), (23, 96), (32, 96), (112, 96), (145, 96), (179, 64), (190, 127), (197, 32), (207, 127), (209, 96), (212, 96), (223, 96), (235, 64), (246, 127), (253, 32), (263, 127), (265, 96), (268, 96), (291, 96), (315, 64), (326, 127), (333, 32), (343, 127), (345, 96), (348, 96), (353, 96), (359, 64), (370, 127), (377, 32), (387, 127), (389, 96), (392, 96), (402, 96), (412, 96), (415, 127), (417, 96), (421, 96), (425, 96), (428, 96), (438, 96), (448, 96), (451, 127), (453, 96), (463, 96), (475, 64), (479, 64), (484, 127), (486, 96), (489, 96), (499, 96), (509, 96), (512, 127), (514, 96), (518, 96), (522, 96), (525, 127), (527, 96), (532, 96), (538, 64), (549, 127), (556, 32), (566, 127), (568, 96), (571, 96), (581, 96), (591, 96), (594, 127), (596, 96), (613, 96), (631, 64), (642, 127), (649, 32), (659, 127), (661, 96), (664, 96), (674, 96), (684, 96), (687, 127), (689, 96), (705, 96), (721, 96), (724, 127), (726, 96), (732, 127)]
def xML : List (List (Nat × Nat)) := [xml_0, xml_1, xml_2, xml_3, xml_4, xml_5, xml_6, xml_7, xml_8, xml_9, xml_10, xml_11, xml_12, xml_13, xml_14, xml_15, xml_16, xml_17, xml_18, xml_19, xml_20, xml_21, xml_22, xml_23, xml_24, xml_25, xml_26, xml_27, xml_28, xml_29, xml_30, xml_31, xml_32, xml_33, xml_34, xml_35, xml_36, xml_37, xml_38, xml_39, xml_40, xml_41, xml_42, xml_43, xml_44, xml_45, xml_46, xml_47, xml_48, xml_49, xml_50, xml_51, xml_52, xml_53, xml_54, xml_55, xml_56, xml_57, xml_58, xml_59, xml_60, xml_61, xml_62, xml_63, xml_64, xml_65, xml_66, xml_67, xml_68, xml_69, xml_70, xml_71, xml_72, xml_73, xml_74, xml_75, xml_76, xml_77, xml_78, xml_79, xml_80, xml_81, xml_82, xml_83, xml_84, xml_85, xml_86, xml_87, xml_88, xml_89, xml_90, xml_91, xml_92, xml_93, xml_94, xml_95, xml_96, xml_97, xml_98, xml_99, xml_100, xml_101, xml_102, xml_103, xml_104, xml_105, xml_106, xml_107, xml_108, xml_109, xml_110, xml_111, xml_112, xml_113, xml_114, xml_115, xml_116, xml_117, xml_118, xml_119, xml_120, xml_121, xml_122, xml_123, xml_124, xml_125, xml_126, xml_127, xml_128, xml_129, xml_130, xml_131, xml_132, xml_133, xml_134, xml_135, xml_136, xml_137, xml_138, xml_139, xml_140, xml_141, xml_142, xml_143, xml_144, xml_145, xml_146, xml_147, xml_148, xml_149, xml_150, xml_151, xml_152, xml_153, xml_154, xml_155, xml_156, xml_157, xml_158, xml_159, xml_160, xml_161, xml_162, xml_163, xml_164, xml_165, xml_166, xml_167, xml_168]
def xML_law : List (Nat × Nat) := xml_169
end
section
/-! Runs. -/
/-- locals that no later instruction reads are forgotten: by a mask -/
def xkl : Nat → List (Option Value) → List (Option Value)
  | _, [] => []
  | m, o :: r => (bif Nat.beq (m % 2) 1 then none else o) :: xkl (m / 2) r
def xmlook : List (Nat × Nat) → Nat → Nat
  | [], _ => 0
  | (q, m) :: r, pc => bif Nat.beq q pc then m else xmlook r pc
def xmask (mi pc : Nat) : Nat := xmlook (bif Nat.beq mi 999 then xML_law else xML.getD mi []) pc
/-- a run: fuel, frames that may be laid, the method, where it stands -/
def ax (P : Nat → xM) : Nat → Nat → Nat → xF → Option (xO × xS)
  | 0, _, _, _ => none
  | n + 1, d, mi, f => match xat (P mi).2.2.2.2.2.1 f.1 with
    | none => none
    | some i => match xstep d i f.1 (xkl (xmask mi f.1) f.2.1) f.2.2.1 f.2.2.2 with
      | none => none
      | some (.inl f') => ax P n d mi f'
      | some (.inr (.inr r)) => some r
      | some (.inr (.inl k)) => bif !(Nat.ble (xsl k.2.1).length (P k.1).2.2.2.1 && Nat.blt k.1 999) then none else
        match ax P n (d - 1) k.1 (0, xent (P k.1).2.2.2.1 k.2.1, [], f.2.2.2) with
        | none => none
        | some (o, S') => bif !(Nat.ble S'.2.2.2.2.1 f.2.2.2.2.2.2.2.1 && Nat.ble S'.2.2.2.2.2 f.2.2.2.2.2.2.2.2) then none else
          match o with
          | .inl v => ax P n d mi (f.1 + 3, xkl (xmask mi f.1) f.2.1, v.toList ++ k.2.2, S')
          | .inr x => bif !(xisV i.1) then none else match xcatch (P mi).2.2.2.2.2.1 (P mi).2.2.2.2.2.2 f.1 x with
            | none => none
            | some q => bif !(xfree (xkl (xmask mi f.1) f.2.1) q.2 && Nat.blt q.2 (xkl (xmask mi f.1) f.2.1).length) then none else ax P n d mi (q.1, (xkl (xmask mi f.1) f.2.1).set q.2 none, [], S')
end
section
/-! The small machine is the machine's: values, cells, locals. -/
def xv (ad : Nat → Nat) : Value → Value
  | .ref k => .ref (ad k)
  | v => v
theorem xv_cat (ad : Nat → Nat) (v : Value) : (xv ad v).category = v.category := by cases v <;> rfl
theorem xcat_sum (ad : Nat → Nat) (r : List Value) : ((r.map (xv ad)).map fun v => v.category).sum = xcat r := by
  induction r with
  | nil => rfl
  | cons v r ih => simp only [List.map_cons, List.sum_cons, xcat, xv_cat, ih]
def xfd (ad : Nat → Nat) (h : xI) (k j : Nat) (o : Option Value) : Value := match o with
  | none => .int (h k j)
  | some v => xv ad v
def xfld (ad : Nat → Nat) (h : xI) (k : Nat) (ks : List (Option Value)) : List Value := ks.mapIdx (fun j o => xfd ad h k j o)
theorem xfld_at {ad : Nat → Nat} {h : xI} {k j : Nat} {ks : List (Option Value)} {o : Option Value} (hj : ks[j]? = some o) : (xfld ad h k ks)[j]? = some (xfd ad h k j o) := by
  simp [xfld, List.getElem?_mapIdx, hj]
theorem xfld_len {ad : Nat → Nat} {h : xI} {k : Nat} {ks : List (Option Value)} : (xfld ad h k ks).length = ks.length := by simp [xfld]
def xE (ad : Nat → Nat) (dA : Nat → ClassId) (h : xI) (g : xJ) (k : Nat) : xG → va_E
  | .inl o => .inr (o.1, xfld ad h k o.2)
  | .inr a => if a.1 = 3 then .inl (dA 3, a.2, .inr (.inl (g k))) else .inl (dA a.1, a.2, .inl (h k))
def xW (ad : Nat → Nat) (dA : Nat → ClassId) (S : xS) : va_W := S.1.mapIdx (fun k q => (ad k, xE ad dA S.2.1 S.2.2.1 k q))
theorem xW_len {ad : Nat → Nat} {dA : Nat → ClassId} {S : xS} : (xW ad dA S).length = S.1.length := by simp [xW]
theorem xW_at {ad : Nat → Nat} {dA : Nat → ClassId} {S : xS} {k : Nat} {q : xG} (h : S.1[k]? = some q) : (xW ad dA S)[k]? = some (ad k, xE ad dA S.2.1 S.2.2.1 k q) := by
  simp [xW, List.getElem?_mapIdx, h]
theorem xW_inv {ad : Nat → Nat} {dA : Nat → ClassId} {S : xS} {k : Nat} {x : Nat × va_E} (h : (xW ad dA S)[k]? = some x) : k < S.1.length ∧ x.1 = ad k := by
  have hl := (List.getElem?_eq_some_iff.mp h).1
  rw [xW_len] at hl
  refine ⟨hl, ?_⟩
  rw [xW_at (List.getElem?_eq_getElem hl)] at h
  cases h
  rfl
/-- one cell is changed -/
theorem xW_set {ad : Nat → Nat} {dA : Nat → ClassId} {S S' : xS} {k : Nat} {q : xG} {e : va_E} (hl : S'.1.length = S.1.length) (hk : S'.1[k]? = some q) (he : xE ad dA S'.2.1 S'.2.2.1 k q = e)
    (ho : ∀ j, j ≠ k → S'.1[j]? = S.1[j]? ∧ S'.2.1 j = S.2.1 j ∧ S'.2.2.1 j = S.2.2.1 j) : (xW ad dA S).set k (ad k, e) = xW ad dA S' := by
  subst he
  apply List.ext_getElem?
  intro j
  by_cases hj : j = k
  · subst hj
    have hlt : j < S.1.length := by rw [← hl]; exact (List.getElem?_eq_some_iff.mp hk).1
    rw [xW_at hk, List.getElem?_set_self (by rw [xW_len]; exact hlt)]
  · obtain ⟨h1, h2, h3⟩ := ho j hj
    rw [List.getElem?_set_ne (Ne.symm hj)]
    cases hq : S.1[j]? with
    | none =>
      have h4 : (xW ad dA S)[j]? = none := by
        rw [List.getElem?_eq_none_iff, xW_len]
        exact List.getElem?_eq_none_iff.mp hq
      have h5 : (xW ad dA S')[j]? = none := by
        rw [List.getElem?_eq_none_iff, xW_len, hl]
        exact List.getElem?_eq_none_iff.mp hq
      rw [h4, h5]
    | some q2 =>
      rw [xW_at hq, xW_at (h1.trans hq)]
      cases q2 with
      | inl o => simp only [xE, xfld, xfd, h2]
      | inr a => simp only [xE, h2, h3]
theorem xput_self {h : xI} {k j : Nat} {v : Int32} : xput h k j v k = upd (h k) j v := by simp [xput]
theorem xput_ne {h : xI} {k j a : Nat} {v : Int32} (n : a ≠ k) : xput h k j v a = h a := by simp [xput, n]
theorem xset_self {h : xI} {k : Nat} {f : Nat → Int32} : xset h k f k = f := by simp [xset]
theorem xset_ne {h : xI} {k a : Nat} {f : Nat → Int32} (n : a ≠ k) : xset h k f a = h a := by simp [xset, n]
theorem xputL_self {h : xJ} {k j : Nat} {v : Int64} : xputL h k j v k = vp_updL (h k) j v := by simp [xputL]
theorem xputL_ne {h : xJ} {k j a : Nat} {v : Int64} (n : a ≠ k) : xputL h k j v a = h a := by simp [xputL, n]
theorem xsetL_self {h : xJ} {k : Nat} {f : Nat → Int64} : xsetL h k f k = f := by simp [xsetL]
theorem xsetL_ne {h : xJ} {k a : Nat} {f : Nat → Int64} (n : a ≠ k) : xsetL h k f a = h a := by simp [xsetL, n]
/-- a field of ints is written -/
theorem xfld_put {ad : Nat → Nat} {h : xI} {k j : Nat} {ks : List (Option Value)} {v : Int32} (hj : ks[j]? = some none) : xfld ad (xput h k j v) k ks = (xfld ad h k ks).set j (.int v) := by
  have hl := (List.getElem?_eq_some_iff.mp hj).1
  apply List.ext_getElem?
  intro i
  by_cases hi : i = j
  · subst hi
    rw [List.getElem?_set_self (by rw [xfld_len]; exact hl), xfld_at hj]
    simp [xfd, xput, upd]
  · rw [List.getElem?_set_ne (Ne.symm hi)]
    simp only [xfld, List.getElem?_mapIdx]
    cases ks[i]? with
    | none => rfl
    | some o => cases o <;> simp [xfd, xput, upd, hi]
theorem xfld_ref {ad : Nat → Nat} {h : xI} {k j v : Nat} {ks : List (Option Value)} (hj : j < ks.length) : xfld ad h k (ks.set j (some (.ref v))) = (xfld ad h k ks).set j (.ref (ad v)) := by
  apply List.ext_getElem?
  intro i
  by_cases hi : i = j
  · subst hi
    rw [List.getElem?_set_self (by rw [xfld_len]; exact hj), xfld_at (List.getElem?_set_self hj)]
    rfl
  · rw [List.getElem?_set_ne (Ne.symm hi)]
    simp only [xfld, List.getElem?_mapIdx, List.getElem?_set_ne (Ne.symm hi)]
/-! locals -/
def xlv (ad : Nat → Nat) (lsC : Array Slot) (nL : Nat) (ls : List (Option Value)) : Prop := lsC.size = nL ∧ lv_wf lsC ∧ ls.length = nL ∧ ∀ (i : Nat) (v : Value), ls[i]? = some (some v) → lsC[i]? = some (.val (xv ad v))
def xll (ad : Nat → Nat) (ls : List (Option Value)) : List (Nat × Value) := (List.range ls.length).filterMap (fun i => match ls[i]? with
  | some (some v) => some (i, xv ad v)
  | _ => none)
theorem xll_mem {ad : Nat → Nat} {ls : List (Option Value)} {i : Nat} {w : Value} : (i, w) ∈ xll ad ls ↔ ∃ v, ls[i]? = some (some v) ∧ w = xv ad v := by
  simp only [xll, List.mem_filterMap, List.mem_range]
  constructor
  · rintro ⟨a, ha, h⟩
    split at h
    · rename_i v hv
      cases h
      exact ⟨v, hv, rfl⟩
    · cases h
  · rintro ⟨v, hv, rfl⟩
    exact ⟨i, (List.getElem?_eq_some_iff.mp hv).1, by rw [hv]⟩
theorem xlv.has {ad : Nat → Nat} {lsC : Array Slot} {nL : Nat} {ls : List (Option Value)} (h : xlv ad lsC nL ls) : lv_has lsC nL (xll ad ls) := by
  obtain ⟨h1, h2, -, h3⟩ := h
  refine ⟨h1, h2, fun q hq => ?_⟩
  obtain ⟨i, w⟩ := q
  obtain ⟨v, hv, rfl⟩ := xll_mem.mp hq
  exact h3 i v hv
theorem xlv.at {ad : Nat → Nat} {lsC : Array Slot} {nL : Nat} {ls : List (Option Value)} (h : xlv ad lsC nL ls) {i : Nat} {v : Value} (hv : ls[i]? = some (some v)) : lsC[i]? = some (.val (xv ad v)) := h.2.2.2 i v hv
theorem xfree_ne {ls : List (Option Value)} {k j : Nat} {v : Value} (hf : xfree ls k = true) (hj : j + 1 = k) (hv : ls[j]? = some (some v)) (ad : Nat → Nat) : ¬ (xv ad v).category = 2 := by
  subst hj
  rw [xv_cat]
  cases v with
  | long x => simp [xfree, hv] at hf
  | double b => simp [xfree, hv] at hf
  | _ => simp [Value.category]
/-- behind a store of one slot -/
theorem xlv.st1 {ad : Nat → Nat} {lsC lsD : Array Slot} {nL k : Nat} {ls : List (Option Value)} {v : Value} (h : xlv ad lsC nL ls) (hk : k < nL) (hf : xfree ls k = true)
    (h' : lv_has lsD nL ((k, xv ad v) :: (xll ad ls).filter (fun q => !(q.1 == k) && !(q.1 + 1 == k && q.2.category == 2)))) : xlv ad lsD nL (ls.set k (some v)) := by
  obtain ⟨h1, h2, h3, h4⟩ := h
  refine ⟨h'.1, h'.2.1, by simpa using h3, fun i w hw => ?_⟩
  by_cases hi : i = k
  · subst hi
    rw [List.getElem?_set_self (by rw [h3]; exact hk)] at hw
    cases hw
    exact h'.2.2 (i, xv ad v) List.mem_cons_self
  · rw [List.getElem?_set_ne (Ne.symm hi)] at hw
    refine h'.2.2 (i, xv ad w) (List.mem_cons_of_mem _ (List.mem_filter.mpr ⟨xll_mem.mpr ⟨w, hw, rfl⟩, ?_⟩))
    by_cases hik : i + 1 = k
    · have := xfree_ne hf hik hw ad
      simp [hi, this]
    · simp [hi, hik]
/-- behind a store of two slots -/
theorem xlv.st2 {ad : Nat → Nat} {lsC lsD : Array Slot} {nL k : Nat} {ls : List (Option Value)} {v : Value} (h : xlv ad lsC nL ls) (hk : k + 1 < nL) (hf : xfree ls k = true)
    (h' : lv_has lsD nL ((k, xv ad v) :: (xll ad ls).filter (fun q => !(q.1 == k) && (!(q.1 == k + 1) && !(q.1 + 1 == k && q.2.category == 2))))) : xlv ad lsD nL ((ls.set k (some v)).set (k + 1) none) := by
  obtain ⟨h1, h2, h3, h4⟩ := h
  refine ⟨h'.1, h'.2.1, by simpa using h3, fun i w hw => ?_⟩
  by_cases hi1 : i = k + 1
  · subst hi1
    rw [List.getElem?_set_self (by simp; omega)] at hw
    cases hw
  · rw [List.getElem?_set_ne (Ne.symm hi1)] at hw
    by_cases hi : i = k
    · subst hi
      rw [List.getElem?_set_self (by omega)] at hw
      cases hw
      exact h'.2.2 (i, xv ad v) List.mem_cons_self
    · rw [List.getElem?_set_ne (Ne.symm hi)] at hw
      refine h'.2.2 (i, xv ad w) (List.mem_cons_of_mem _ (List.mem_filter.mpr ⟨xll_mem.mpr ⟨w, hw, rfl⟩, ?_⟩))
      by_cases hik : i + 1 = k
      · have := xfree_ne hf hik hw ad
        simp [hi, hi1, this]
      · simp [hi, hi1, hik]
/-- a local is forgotten -/
theorem xlv.drop {ad : Nat → Nat} {lsC : Array Slot} {nL k : Nat} {ls : List (Option Value)} (h : xlv ad lsC nL ls) : xlv ad lsC nL (ls.set k none) := by
  obtain ⟨h1, h2, h3, h4⟩ := h
  refine ⟨h1, h2, by simpa using h3, fun i w hw => h4 i w ?_⟩
  by_cases hi : i = k
  · subst hi
    by_cases hl : i < ls.length
    · rw [List.getElem?_set_self hl] at hw
      cases hw
    · rw [List.getElem?_eq_none_iff.mpr (by simpa using Nat.le_of_not_lt hl)] at hw
      cases hw
  · rwa [List.getElem?_set_ne (Ne.symm hi)] at hw
/-- other addresses, where no reference of the locals' has moved -/
theorem xokv_eq {ad ad' : Nat → Nat} {n : Nat} (hag : ∀ k, k < n ∨ k = xscr → ad' k = ad k) {v : Value} (h : xokv n v = true) : xv ad' v = xv ad v := by
  cases v with
  | ref k =>
    simp only [xokv, Bool.or_eq_true] at h
    show Value.ref (ad' k) = Value.ref (ad k)
    rw [hag k (h.imp (fun h => Nat.blt_eq.mp h) (fun h => Nat.eq_of_beq_eq_true h))]
  | _ => rfl
theorem xoks_mem {n : Nat} {st : List Value} (h : xoks n st = true) : ∀ v ∈ st, xokv n v = true := by
  induction st with
  | nil => intro v hv; cases hv
  | cons a r ih =>
    simp only [xoks, Bool.and_eq_true] at h
    intro v hv
    rcases List.mem_cons.mp hv with rfl | hv
    · exact h.1
    · exact ih h.2 v hv
theorem xokl_mem {n : Nat} {ls : List (Option Value)} (h : xokl n ls = true) : ∀ v, some v ∈ ls → xokv n v = true := by
  induction ls with
  | nil => intro v hv; cases hv
  | cons a r ih =>
    intro v hv
    cases a with
    | none =>
      simp only [xokl] at h
      rcases List.mem_cons.mp hv with hv | hv
      · cases hv
      · exact ih h v hv
    | some w =>
      simp only [xokl, Bool.and_eq_true] at h
      rcases List.mem_cons.mp hv with hv | hv
      · cases hv
        exact h.1
      · exact ih h.2 v hv
theorem xoks_map {ad ad' : Nat → Nat} {n : Nat} (hag : ∀ k, k < n ∨ k = xscr → ad' k = ad k) {st : List Value} (h : ∀ v ∈ st, xokv n v = true) : st.map (xv ad') = st.map (xv ad) :=
  List.map_congr_left fun v hv => xokv_eq hag (h v hv)
theorem xlv.ag {ad ad' : Nat → Nat} {n nL : Nat} (hag : ∀ k, k < n ∨ k = xscr → ad' k = ad k) {lsC : Array Slot} {ls : List (Option Value)} (h : xlv ad lsC nL ls) (ho : xokl n ls = true) : xlv ad' lsC nL ls := by
  obtain ⟨h1, h2, h3, h4⟩ := h
  refine ⟨h1, h2, h3, fun i v hv => ?_⟩
  rw [xokv_eq hag (xokl_mem ho v (List.mem_of_getElem? hv))]
  exact h4 i v hv
/-- the locals with which a method begins -/
theorem xsl_len (ad : Nat → Nat) (vs : List Value) (hd : ∀ b, Value.double b ∉ vs) : (lg_sl (vs.map (xv ad))).length = (xsl vs).length := by
  induction vs with
  | nil => rfl
  | cons v r ih =>
    have ihr := ih (fun b hb => hd b (List.mem_cons_of_mem _ hb))
    unfold lg_sl at ihr ⊢
    rw [List.map_cons, List.flatMap_cons, List.length_append, ihr, xv_cat]
    cases v with
    | long x => simp [xsl, Value.category]; omega
    | double b => exact absurd List.mem_cons_self (hd b)
    | _ => simp [xsl, Value.category]; omega
theorem xsl_args (ad : Nat → Nat) : ∀ (vs : List Value) (n i : Nat) (v : Value), (∀ b, Value.double b ∉ vs) → (xsl vs)[i]? = some (some v) → (n + i, xv ad v) ∈ lv_args n (vs.map (xv ad))
  | [], _, i, v, _, h => by simp [xsl] at h
  | w :: r, n, i, v, hd, h => by
    have hdr : ∀ b, Value.double b ∉ r := fun b hb => hd b (List.mem_cons_of_mem _ hb)
    have one : (∀ x, w ≠ .long x) → (n + i, xv ad v) ∈ lv_args n ((w :: r).map (xv ad)) := by
      intro hw
      have e1 : xsl (w :: r) = some w :: xsl r := by
        cases w with
        | long x => exact absurd rfl (hw x)
        | _ => rfl
      have e2 : ¬ (xv ad w).category = 2 := by
        rw [xv_cat]
        cases w with
        | long x => exact absurd rfl (hw x)
        | double b => exact absurd List.mem_cons_self (hd b)
        | _ => simp [Value.category]
      rw [e1] at h
      rw [List.map_cons, lv_args, if_neg e2]
      cases i with
      | zero =>
        rw [List.getElem?_cons_zero] at h
        cases h
        exact List.mem_cons_self
      | succ i =>
        rw [List.getElem?_cons_succ] at h
        have := xsl_args ad r (n + 1) i v hdr h
        rw [show n + (i + 1) = n + 1 + i by omega]
        exact List.mem_cons_of_mem _ this
    cases w with
    | long x =>
      rw [List.map_cons, lv_args, if_pos (show (xv ad (.long x)).category = 2 from rfl)]
      rw [show xsl (.long x :: r) = some (.long x) :: none :: xsl r from rfl] at h
      cases i with
      | zero =>
        rw [List.getElem?_cons_zero] at h
        cases h
        exact List.mem_cons_self
      | succ i =>
        cases i with
        | zero => simp at h
        | succ i =>
          rw [List.getElem?_cons_succ, List.getElem?_cons_succ] at h
          have := xsl_args ad r (n + 2) i v hdr h
          rw [show n + (i + 1 + 1) = n + 2 + i by omega]
          exact List.mem_cons_of_mem _ this
    | int x => exact one (fun _ h => by cases h)
    | float x => exact one (fun _ h => by cases h)
    | double x => exact one (fun _ h => by cases h)
    | null => exact one (fun _ h => by cases h)
    | ref x => exact one (fun _ h => by cases h)
    | retAddr x => exact one (fun _ h => by cases h)
theorem xlv.entry (ad : Nat → Nat) (vs : List Value) {n : Nat} (hd : ∀ b, Value.double b ∉ vs) (hn : (xsl vs).length ≤ n) :
    xlv ad ((lg_sl (vs.map (xv ad)) ++ List.replicate (n - (lg_sl (vs.map (xv ad))).length) Slot.unset).toArray) n (xent n vs) := by
  have hl := lv_entry (vs.map (xv ad)) (n := n) (by rw [xsl_len ad vs hd]; exact hn)
  refine ⟨hl.1, hl.2.1, by simp [xent]; omega, fun i v hv => ?_⟩
  unfold xent at hv
  by_cases hi : i < (xsl vs).length
  · rw [List.getElem?_append_left hi] at hv
    have := xsl_args ad vs 0 i v hd hv
    rw [Nat.zero_add] at this
    exact hl.2.2 _ this
  · rw [List.getElem?_append_right (Nat.le_of_not_lt hi)] at hv
    have := List.mem_of_getElem? hv
    rw [List.mem_replicate] at this
    cases this.2
end
section
/-! One step of the small machine is a step of the machine. -/
def xln : Instr → Nat → Nat
  | .bipush _, _ => 2
  | .sipush _, _ => 3
  | .ldc _, _ => 2
  | .ldc_w _, _ => 3
  | .ldc2_w _, _ => 3
  | .iload _, _ => 2
  | .lload _, _ => 2
  | .aload _, _ => 2
  | .istore _, _ => 2
  | .lstore _, _ => 2
  | .astore _, _ => 2
  | .iinc _ _, _ => 3
  | .goto _, _ => 3
  | .ifCond _ _, _ => 3
  | .if_icmp _ _, _ => 3
  | .getfield _, _ => 3
  | .putfield _, _ => 3
  | .newarray _, _ => 2
  | .new _, _ => 3
  | .invokestatic _, _ => 3
  | .invokevirtual _, _ => 3
  | .invokespecial _, _ => 3
  | .tableswitch _ _ _ _, n => n
  | .lookupswitch _ _, n => n
  | _, _ => 1
/-- a field's entry -/
def xfl (own : String) (k dat : Nat) : Prop := ∃ (C : String) (T : u_T) (N : Nat), xcl[dat / 64]? = some (C, T, N) ∧ dat % 64 < N ∧ Cond.fieldLink own k (T (dat % 64)).1 (T (dat % 64)).2.1 (T (dat % 64)).2.2.1 ∈ xWS
/-- a call's entries -/
def xlkS (own : String) (k dat : Nat) : Prop := Cond.methodLink own k (xP (dat / 16 % 1000)).2.1 ∈ xWS ∧ Cond.static (xP (dat / 16 % 1000)).2.1 ∈ xWS ∧ (parseMethodDescriptor (xP (dat / 16 % 1000)).2.1.desc).map (fun d => d.parameters.length) = some (dat % 16)
def xlkV (own : String) (k dat : Nat) : Prop := Cond.methodLink own k (xP (dat / 16 % 1000)).2.1 ∈ xWS ∧ Cond.instanceMethod (xP (dat / 16 % 1000)).2.1 ∈ xWS ∧ (∃ (C : String) (T : u_T) (N : Nat), xcl[dat / 16000]? = some (C, T, N) ∧ Cond.selects C (xP (dat / 16 % 1000)).2.1 (xP (dat / 16 % 1000)).2.1 ∈ xWS) ∧ (parseMethodDescriptor (xP (dat / 16 % 1000)).2.1.desc).map (fun d => d.parameters.length + 1) = some (dat % 16) ∧ (xP (dat / 16 % 1000)).2.2.2.2.2.2 = []
def xlkI (own : String) (k dat : Nat) : Prop := (xP (dat / 16 % 1000)).2.1.name = "<init>" ∧ (Cond.methodLink own k (xP (dat / 16 % 1000)).2.1 ∈ xWS ∨ Cond.methodLinkNest own k (xP (dat / 16 % 1000)).2.1 xhost ∈ xWN) ∧ Cond.instanceMethod (xP (dat / 16 % 1000)).2.1 ∈ xWS ∧ (xP (dat / 16 % 1000)).2.2.2.2.1 = none ∧ (parseMethodDescriptor (xP (dat / 16 % 1000)).2.1.desc).map (fun d => d.parameters.length + 1) = some (dat % 16) ∧ (xP (dat / 16 % 1000)).2.2.2.2.2.2 = []
def xexN : List String := ["java/lang/IllegalArgumentException", "java/lang/IllegalStateException", "java/lang/IndexOutOfBoundsException"]
def xsup : List String := ["java/lang/RuntimeException", "java/lang/Exception"]
def xst1w : Cond := .isRef (.static Bundle.tN "UNASSIGNED_STACK" Bundle.steD)
def xst2w : Cond := .isRef (.static Bundle.tN "SUPPRESSED_SENTINEL" Bundle.listD)
/-- new; dup; ldc; invokespecial; athrow: what the tables have for it -/
def xThr (M : xM) (pc ix dat : Nat) : Prop := ∃ (X : String) (sx : Nat) (tx : String) (ic : Nat), xexN[dat - 100]? = some X ∧ decode M.2.2.1 (pc + 3) = .ok (.dup, 1) ∧ decode M.2.2.1 (pc + 4) = .ok (.ldc sx, 2) ∧ decode M.2.2.1 (pc + 6) = .ok (.invokespecial ic, 3) ∧ decode M.2.2.1 (pc + 9) = .ok (.athrow, 1) ∧
  Cond.classLink M.1 ix X ∈ xWS ∧ Cond.instantiable X 6 ∈ xWS ∧ Cond.initialized X ∈ xWS ∧ Cond.stringRef M.1 sx tx ∈ lw_tbl ∧ (∀ w ∈ Bundle.ownAtoms M.1 ic X xsup, w ∈ lw_tbl ∨ w = xst1w ∨ w = xst2w) ∧ M.2.2.2.2.2.2 = []
/-- what the tables have for an instruction that goes on by itself -/
def xOK (M : xM) (pc : Nat) (i : xC) : Prop := decode M.2.2.1 pc = .ok (i.1, xln i.1 i.2.1) ∧ match i.1 with
  | .bipush n => (Int8.ofInt n).toInt32 = Int32.ofInt n
  | .sipush n => (Int16.ofInt n).toInt32 = Int32.ofInt n
  | .ldc k => Cond.constant M.1 k (Int32.ofNat i.2.2) ∈ xWS
  | .ldc_w k => Cond.constant M.1 k (Int32.ofNat i.2.2) ∈ xWS
  | .ldc2_w k => Cond.constantLong M.1 k (Int64.ofNat i.2.2) ∈ xWS
  | .goto off => (pc : Int) + off = (i.2.2 : Int)
  | .ifCond _ off => (pc : Int) + off = (i.2.2 : Int)
  | .if_icmp _ off => (pc : Int) + off = (i.2.2 : Int)
  | .tableswitch dflt lo hi offs => 0 ≤ (pc : Int) + dflt ∧ (∀ o ∈ offs.toList, 0 ≤ (pc : Int) + o) ∧ hi - lo < offs.size
  | .lookupswitch dflt ps => (ps.toList.zip (ps.toList.drop 1)).all (fun (a, next) => a.1 < next.1) = true ∧ 0 ≤ (pc : Int) + dflt ∧ ∀ o ∈ ps.toList, 0 ≤ (pc : Int) + o.2
  | .getfield k => xfl M.1 k i.2.2
  | .putfield k => xfl M.1 k i.2.2 ∧ ∀ C T N, xcl[i.2.2 / 64]? = some (C, T, N) → ((T (i.2.2 % 64)).2.2.2 = true → M.2.1.name = "<init>" ∧ (T (i.2.2 % 64)).1 = M.1) ∧ ∃ ty, parseFieldDescriptor (T (i.2.2 % 64)).2.2.1 = some ty ∧ (i.2.1 = 0 → ty = .int) ∧ (i.2.1 = 1 → (∃ n, ty = .object n) ∨ ∃ t, ty = .array t)
  | .newarray t => Cond.arrayClass (newarray.typeOf t) ∈ xWS
  | .new k => (100 ≤ i.2.2 → xThr M pc k i.2.2) ∧ (i.2.2 < 100 → ∃ (C : String) (T : u_T) (N : Nat), xcl[i.2.2]? = some (C, T, N) ∧ Cond.classLink M.1 k C ∈ xWS ∧ Cond.instantiable C N ∈ xWS ∧ Cond.initialized C ∈ xWS ∧ ∃ ks, xkinds i.2.2 = some ks ∧ ks.length = N ∧ ∀ j, j < N → (ks[j]? = some none ∧ parseFieldDescriptor (T j).2.2.1 = some .int) ∨ (ks[j]? = some (some .null) ∧ ∃ ty, parseFieldDescriptor (T j).2.2.1 = some ty ∧ defaultValue ty = .null))
  | .invokestatic k => if i.2.2 = 14421 then Cond.methodLink M.1 k arraycopyName ∈ xWS else xlkS M.1 k i.2.2
  | .invokevirtual k => xlkV M.1 k i.2.2
  | .invokespecial k => if i.2.2 = 14401 then Cond.methodLink M.1 k Lib.objectInit ∈ xWS else xlkI M.1 k i.2.2
  | .ireturn => M.2.2.2.2.1 = if i.2.2 = 0 then some .int else some .boolean
  | .lreturn => M.2.2.2.2.1 = some .long
  | .return_ => M.2.2.2.2.1 = none
  | _ => True
abbrev xtys (dA : Nat → ClassId) : List (ClassId × FieldType) := [(dA 0, .int), (dA 1, .byte), (dA 2, .boolean), (dA 3, .long)]
/-- what does not change over the whole run: the state at the law's start, the script's cell, its length, its numbers -/
abbrev xP0 : Type := State × Nat × Nat × (Nat → Int32)
/-- what the walked method's frame stands on -/
def xCtx (M : xM) (d : Nat) (p : Program) (l : Launch) (R : Room) (s : State) (m : MethodId) (args : Array Value) (meth : Method) (c : Code) (D : va_G) (dA : Nat → ClassId) (A : Nat → Prop) (E : xP0) : Prop :=
  p.tables.exec = Jvm.exec ∧ c.code = M.2.2.1 ∧ c.maxLocals = M.2.2.2.1 ∧ s.vm.findClass M.1 = some m.cls ∧ (∀ w ∈ xWS, w.before args s = true) ∧ va_K D xcl (xtys dA) s ∧ (∀ q, s.heap.size ≤ q → A q) ∧
  (M.2.1.name = "<init>" → meth.name = "<init>") ∧ d ≤ R.frames ∧ d * 35 ≤ R.locals ∧ (∀ pc i, xat M.2.2.2.2.2.1 pc = some i → xOK M pc i) ∧
  va_X E.2.1 E.2.2.1 E.2.2.2 s s.heap ∧ E.2.1 < E.1.heap.size ∧ E.1.heap.size ≤ s.heap.size ∧ (∀ q, q < E.1.heap.size → s.heap[q]? = E.1.heap[q]?) ∧ (∀ q, A q → E.1.heap.size ≤ q) ∧ E.1.WarmedH s.vm ∧
  (M.2.2.2.2.2.2 ≠ [] → c.exceptionTable.toList.map (fun h => (h.startPc, h.endPc, h.handlerPc, h.catchType)) = M.2.2.2.2.2.2.map fun h => (h.1, h.2.1, h.2.2.1, h.2.2.2.1))
/-- the references that the shapes hold are places of cells -/
def xwG (G : List xG) : Prop := ∀ (k : Nat) (o : Nat × List (Option Value)) (j v : Nat), G[k]? = some (.inl o) → o.2[j]? = some (some (.ref v)) → v < G.length
/-- the heap holds the state -/
def xRel (D : va_G) (dA : Nat → ClassId) (A : Nat → Prop) (s : State) (R : Room) (n0 : Nat) (ad0 : Nat → Nat) (E : xP0) (ad : Nat → Nat) (S : xS) (H : Heap) (locs : List Loc) (cells slots : Nat) : Prop :=
  va_P D xcl (xW ad dA S) H ∧ va_D A (xW ad dA S) ∧ va_S A s.heap H locs ∧ cells + S.2.2.2.2.1 = R.cells ∧ slots + S.2.2.2.2.2 = R.slots ∧ xwG S.1 ∧ S.1.length ≤ 1000 ∧ n0 ≤ S.1.length ∧
  S.2.2.2.1 = E.2.2.1 ∧ S.2.1 xscr = E.2.2.2 ∧ ad xscr = E.2.1 ∧ ∀ k, k < n0 → ad k = ad0 k
def xGood (M : xM) (p : Program) (l : Launch) (e : Env) (R : Room) (s : State) (m : MethodId) (args : Array Value) (below : List Frame) (meth : Method) (c : Code) (D : va_G) (dA : Nat → ClassId) (A : Nat → Prop) (n0 : Nat) (ad0 : Nat → Nat) (E : xP0) (Q : State → Prop) (f : xF) : Prop :=
  ∀ (ad : Nat → Nat) (H : Heap) (locs : List Loc) (cells slots : Nat) (lsC : Array Slot), xRel D dA A s R n0 ad0 E ad f.2.2.2 H locs cells slots → xlv ad lsC M.2.2.2.1 f.2.1 →
    W p l e R s m args below meth c H locs cells slots Q (F0 m f.1 lsC (f.2.2.1.map (xv ad)))
theorem xi1_inv {st : List Value} {f : Int32 → List Value → Option xR} {o : xR} (h : xi1 st f = some o) : ∃ x r, st = .int x :: r ∧ f x r = some o := by
  unfold xi1 at h
  split at h
  · exact ⟨_, _, rfl, h⟩
  · cases h
theorem xi2_inv {st : List Value} {f : Int32 → Int32 → List Value → Option xR} {o : xR} (h : xi2 st f = some o) : ∃ x y r, st = .int y :: .int x :: r ∧ f x y r = some o := by
  unfold xi2 at h
  split at h
  · exact ⟨_, _, _, rfl, h⟩
  · cases h
theorem xj1_inv {st : List Value} {f : Int64 → List Value → Option xR} {o : xR} (h : xj1 st f = some o) : ∃ x r, st = .long x :: r ∧ f x r = some o := by
  unfold xj1 at h
  split at h
  · exact ⟨_, _, rfl, h⟩
  · cases h
theorem xj2_inv {st : List Value} {f : Int64 → Int64 → List Value → Option xR} {o : xR} (h : xj2 st f = some o) : ∃ x y r, st = .long y :: .long x :: r ∧ f x y r = some o := by
  unfold xj2 at h
  split at h
  · exact ⟨_, _, _, rfl, h⟩
  · cases h
theorem xji_inv {st : List Value} {f : Int64 → Int32 → List Value → Option xR} {o : xR} (h : xji st f = some o) : ∃ x y r, st = .int y :: .long x :: r ∧ f x y r = some o := by
  unfold xji at h
  split at h
  · exact ⟨_, _, _, rfl, h⟩
  · cases h
theorem xr1_inv {st : List Value} {f : Nat → List Value → Option xR} {o : xR} (h : xr1 st f = some o) : ∃ x r, st = .ref x :: r ∧ f x r = some o := by
  unfold xr1 at h
  split at h
  · exact ⟨_, _, rfl, h⟩
  · cases h
theorem xir_inv {st : List Value} {f : Int32 → Nat → List Value → Option xR} {o : xR} (h : xir st f = some o) : ∃ j k r, st = .int j :: .ref k :: r ∧ f j k r = some o := by
  unfold xir at h
  split at h
  · exact ⟨_, _, _, rfl, h⟩
  · cases h
theorem xiir_inv {st : List Value} {f : Int32 → Int32 → Nat → List Value → Option xR} {o : xR} (h : xiir st f = some o) : ∃ x j k r, st = .int x :: .int j :: .ref k :: r ∧ f x j k r = some o := by
  unfold xiir at h
  split at h
  · exact ⟨_, _, _, _, rfl, h⟩
  · cases h
theorem xjir_inv {st : List Value} {f : Int64 → Int32 → Nat → List Value → Option xR} {o : xR} (h : xjir st f = some o) : ∃ x j k r, st = .long x :: .int j :: .ref k :: r ∧ f x j k r = some o := by
  unfold xjir at h
  split at h
  · exact ⟨_, _, _, _, rfl, h⟩
  · cases h
theorem xli_inv {ls : List (Option Value)} {k : Nat} {f : Int32 → Option xR} {o : xR} (h : xli ls k f = some o) : ∃ x, ls[k]? = some (some (.int x)) ∧ f x = some o := by
  unfold xli at h
  split at h
  · exact ⟨_, by assumption, h⟩
  · cases h
theorem xlj_inv {ls : List (Option Value)} {k : Nat} {f : Int64 → Option xR} {o : xR} (h : xlj ls k f = some o) : ∃ x, ls[k]? = some (some (.long x)) ∧ f x = some o := by
  unfold xlj at h
  split at h
  · exact ⟨_, by assumption, h⟩
  · cases h
theorem xlr_inv {ls : List (Option Value)} {k : Nat} {f : Nat → Option xR} {o : xR} (h : xlr ls k f = some o) : ∃ x, ls[k]? = some (some (.ref x)) ∧ f x = some o := by
  unfold xlr at h
  split at h
  · exact ⟨_, by assumption, h⟩
  · cases h
theorem xst1_inv {ls : List (Option Value)} {k : Nat} {v : Value} {f : List (Option Value) → Option xR} {o : xR} (h : xst1 ls k v f = some o) : xfree ls k = true ∧ k < ls.length ∧ f (ls.set k (some v)) = some o := by
  unfold xst1 at h
  cases hc : (xfree ls k && Nat.blt k ls.length) with
  | false => rw [hc] at h; cases h
  | true =>
    rw [hc] at h
    rw [Bool.and_eq_true] at hc
    exact ⟨hc.1, Nat.blt_eq.mp hc.2, h⟩
theorem xst2_inv {ls : List (Option Value)} {k : Nat} {v : Value} {f : List (Option Value) → Option xR} {o : xR} (h : xst2 ls k v f = some o) : xfree ls k = true ∧ k + 1 < ls.length ∧ f ((ls.set k (some v)).set (k + 1) none) = some o := by
  unfold xst2 at h
  cases hc : (xfree ls k && Nat.blt (k + 1) ls.length) with
  | false => rw [hc] at h; cases h
  | true =>
    rw [hc] at h
    rw [Bool.and_eq_true] at hc
    exact ⟨hc.1, Nat.blt_eq.mp hc.2, h⟩
theorem xbeq {a b : Nat} {α : Type} {f : Option α} {o : α} (h : (bif Nat.beq a b then f else none) = some o) : a = b ∧ f = some o := by
  cases hc : Nat.beq a b with
  | false => rw [hc] at h; cases h
  | true => rw [hc] at h; exact ⟨Nat.eq_of_beq_eq_true hc, h⟩
theorem xnb {a b : Nat} {α : Type} {f : Option α} {o : α} (h : (bif !(Nat.beq a b) then none else f) = some o) : a = b ∧ f = some o := by
  cases hc : Nat.beq a b with
  | false => rw [hc] at h; cases h
  | true => rw [hc] at h; exact ⟨Nat.eq_of_beq_eq_true hc, h⟩
theorem xarr_inv {G : List xG} {k t : Nat} {f : Nat → Option xR} {o : xR} (h : xarr G k t f = some o) : ∃ n, G[k]? = some (.inr (t, n)) ∧ f n = some o := by
  unfold xarr at h
  split at h
  · obtain ⟨rfl, h'⟩ := xbeq h
    clear h
    have h := h'
    exact ⟨_, by assumption, h⟩
  · cases h
theorem xarrB_inv {G : List xG} {k : Nat} {f : Bool → Nat → Option xR} {o : xR} (h : xarrB G k f = some o) : (∃ n, G[k]? = some (.inr (1, n)) ∧ f false n = some o) ∨ ∃ n, G[k]? = some (.inr (2, n)) ∧ f true n = some o := by
  unfold xarrB at h
  split at h
  · rename_i t n hg
    cases hc : Nat.beq t 1 with
    | true =>
      rw [hc] at h
      cases Nat.eq_of_beq_eq_true hc
      exact Or.inl ⟨n, hg, h⟩
    | false =>
      rw [hc] at h
      obtain ⟨rfl, h'⟩ := xbeq h
      clear h
      have h := h'
      exact Or.inr ⟨n, hg, h⟩
  · cases h
theorem xobj_inv {G : List xG} {k ci : Nat} {f : List (Option Value) → Option xR} {o : xR} (h : xobj G k ci f = some o) : ∃ ks, G[k]? = some (.inl (ci, ks)) ∧ f ks = some o := by
  unfold xobj at h
  split at h
  · obtain ⟨rfl, h'⟩ := xbeq h
    clear h
    have h := h'
    exact ⟨_, by assumption, h⟩
  · cases h
theorem xin_inv {i : Int32} {n : Nat} {f : Option xR} {o : xR} (h : xin i n f = some o) : vp_in i n ∧ f = some o := by
  unfold xin at h
  split at h
  · cases h
  · exact ⟨by assumption, h⟩
theorem xif_inv {c : Prop} {_ : Decidable c} {f : Option xR} {o : xR} (h : (if c then none else f) = some o) : ¬ c ∧ f = some o := by
  split at h
  · cases h
  · exact ⟨by assumption, h⟩
def xplain : Instr → Bool
  | .getfield _ | .putfield _ | .iaload | .iastore | .baload | .bastore | .laload | .lastore | .arraylength | .newarray _ | .new _ | .invokestatic _ | .invokevirtual _ | .invokespecial _ => false
  | _ => true
def xisarr : Instr → Bool
  | .iaload | .iastore | .baload | .bastore | .laload | .lastore | .arraylength => true
  | _ => false
section XN
variable {M : xM} {d : Nat} {p : Program} {l : Launch} {e : Env} {R : Room} {s : State} {m : MethodId} {args : Array Value} {below : List Frame} {meth : Method} {c : Code} {D : va_G} {dA : Nat → ClassId} {A : Nat → Prop} {n0 : Nat} {ad0 : Nat → Nat} {E : xP0} {Q : State → Prop}
variable {pc len dat : Nat} {ls : List (Option Value)} {st : List Value} {S : xS} {f' : xF}
set_option maxHeartbeats 4000000 in
set_option maxRecDepth 100000 in
/-- constants, locals, arithmetic, branches -/
theorem xnext_1 {ins : Instr} (X : xCtx M d p l R s m args meth c D dA A E) (hok : xOK M pc (ins, len, dat)) (h : xstep d (ins, len, dat) pc ls st S = some (.inl f'))
    (hins : xplain ins = true)
    (k : xGood M p l e R s m args below meth c D dA A n0 ad0 E Q f') : xGood M p l e R s m args below meth c D dA A n0 ad0 E Q (pc, ls, st, S) := by
  have X0 := X
  obtain ⟨hx, hb, hml, hown, hts, hK, hA, hini, hfr, hlo, -⟩ := X
  obtain ⟨hd, hw⟩ := hok
  intro ad H locs cells slots lsC hR hL
  cases ins with
  | iconst n =>
    cases h
    exact lv_iconst hx hb hd rfl (k ad H locs cells slots lsC hR hL)
  | bipush n =>
    cases h
    exact lv_bipush hx hb hd hw (k ad H locs cells slots lsC hR hL)
  | sipush n =>
    cases h
    exact lv_sipush hx hb hd hw (k ad H locs cells slots lsC hR hL)
  | ldc j =>
    cases h
    exact lv_ldc hx hb hown (hts _ hw) hd (k ad H locs cells slots lsC hR hL)
  | ldc_w j =>
    cases h
    exact lv_ldcw hx hb hown (hts _ hw) hd (k ad H locs cells slots lsC hR hL)
  | ldc2_w j =>
    cases h
    exact lv_ldc2 hx hb hown (hts _ hw) hd (k ad H locs cells slots lsC hR hL)
  | lconst n =>
    cases h
    exact lv_lconst hx hb hd rfl (k ad H locs cells slots lsC hR hL)
  | iload j =>
    obtain ⟨x, hv, h⟩ := xli_inv h
    cases h
    exact lv_iload hx hb hd (hL.at hv) (k ad H locs cells slots lsC hR hL)
  | iload_n j =>
    obtain ⟨x, hv, h⟩ := xli_inv h
    cases h
    exact lv_iload_n hx hb hd rfl (hL.at hv) (k ad H locs cells slots lsC hR hL)
  | lload j =>
    obtain ⟨x, hv, h⟩ := xlj_inv h
    cases h
    exact lv_lload hx hb hd (hL.at hv) (k ad H locs cells slots lsC hR hL)
  | lload_n j =>
    obtain ⟨x, hv, h⟩ := xlj_inv h
    cases h
    exact lv_lload_n hx hb hd rfl (hL.at hv) (k ad H locs cells slots lsC hR hL)
  | aload j =>
    obtain ⟨x, hv, h⟩ := xlr_inv h
    cases h
    exact lv_aload hx hb hd (hL.at hv) (k ad H locs cells slots lsC hR hL)
  | aload_n j =>
    obtain ⟨x, hv, h⟩ := xlr_inv h
    cases h
    exact lv_aload_n hx hb hd rfl (hL.at hv) (k ad H locs cells slots lsC hR hL)
  | istore j =>
    obtain ⟨x, r, rfl, h'⟩ := xi1_inv h
    clear h
    have h := h'
    obtain ⟨hf, hlt, h⟩ := xst1_inv h
    cases h
    have hlt : j < M.2.2.2.1 := hL.2.2.1 ▸ hlt
    exact lv_istore hx hb hd hL.has hlt rfl (fun ls' h' => k ad H locs cells slots ls' hR (hL.st1 (v := .int x) hlt hf h'))
  | istore_n j =>
    obtain ⟨x, r, rfl, h'⟩ := xi1_inv h
    clear h
    have h := h'
    obtain ⟨hf, hlt, h⟩ := xst1_inv h
    cases h
    have hlt : j.val < M.2.2.2.1 := hL.2.2.1 ▸ hlt
    exact lv_istore_n hx hb hd rfl hL.has hlt rfl (fun ls' h' => k ad H locs cells slots ls' hR (hL.st1 (v := .int x) hlt hf h'))
  | lstore j =>
    obtain ⟨x, r, rfl, h'⟩ := xj1_inv h
    clear h
    have h := h'
    obtain ⟨hf, hlt, h⟩ := xst2_inv h
    cases h
    have hlt : j + 1 < M.2.2.2.1 := hL.2.2.1 ▸ hlt
    exact lv_lstore hx hb hd hL.has hlt rfl (fun ls' h' => k ad H locs cells slots ls' hR (hL.st2 (v := .long x) hlt hf h'))
  | lstore_n j =>
    obtain ⟨x, r, rfl, h'⟩ := xj1_inv h
    clear h
    have h := h'
    obtain ⟨hf, hlt, h⟩ := xst2_inv h
    cases h
    have hlt : j.val + 1 < M.2.2.2.1 := hL.2.2.1 ▸ hlt
    exact lv_lstore_n hx hb hd rfl hL.has hlt rfl (fun ls' h' => k ad H locs cells slots ls' hR (hL.st2 (v := .long x) hlt hf h'))
  | astore j =>
    obtain ⟨x, r, rfl, h'⟩ := xr1_inv h
    clear h
    have h := h'
    obtain ⟨hf, hlt, h⟩ := xst1_inv h
    cases h
    have hlt : j < M.2.2.2.1 := hL.2.2.1 ▸ hlt
    exact lv_astore hx hb hd hL.has hlt rfl (fun ls' h' => k ad H locs cells slots ls' hR (hL.st1 (v := .ref x) hlt hf h'))
  | astore_n j =>
    obtain ⟨x, r, rfl, h'⟩ := xr1_inv h
    clear h
    have h := h'
    obtain ⟨hf, hlt, h⟩ := xst1_inv h
    cases h
    have hlt : j.val < M.2.2.2.1 := hL.2.2.1 ▸ hlt
    exact lv_astore_n hx hb hd rfl hL.has hlt rfl (fun ls' h' => k ad H locs cells slots ls' hR (hL.st1 (v := .ref x) hlt hf h'))
  | iinc j n =>
    obtain ⟨x, hv, h⟩ := xli_inv h
    obtain ⟨hf, hlt, h⟩ := xst1_inv h
    cases h
    have hlt : j < M.2.2.2.1 := hL.2.2.1 ▸ hlt
    have hmem : (j, Value.int x) ∈ xll ad ls := xll_mem.mpr ⟨_, hv, rfl⟩
    obtain ⟨q, hq⟩ := List.getElem?_of_mem hmem
    exact lv_iinc hx hb hd hL.has hq rfl hlt rfl (fun ls' h' => k ad H locs cells slots ls' hR (hL.st1 (v := .int (x + Int32.ofInt n)) hlt hf h'))
  | iadd =>
    obtain ⟨x, y, r, rfl, h'⟩ := xi2_inv h
    clear h
    have h := h'
    cases h
    exact lv_iadd (x := x) (y := y) hx hb hd (k ad H locs cells slots lsC hR hL)
  | isub =>
    obtain ⟨x, y, r, rfl, h'⟩ := xi2_inv h
    clear h
    have h := h'
    cases h
    exact lv_isub (x := x) (y := y) hx hb hd (k ad H locs cells slots lsC hR hL)
  | imul =>
    obtain ⟨x, y, r, rfl, h'⟩ := xi2_inv h
    clear h
    have h := h'
    cases h
    exact lv_imul (x := x) (y := y) hx hb hd (k ad H locs cells slots lsC hR hL)
  | iand =>
    obtain ⟨x, y, r, rfl, h'⟩ := xi2_inv h
    clear h
    have h := h'
    cases h
    exact lv_iand (x := x) (y := y) hx hb hd (k ad H locs cells slots lsC hR hL)
  | ior =>
    obtain ⟨x, y, r, rfl, h'⟩ := xi2_inv h
    clear h
    have h := h'
    cases h
    exact lv_ior (x := x) (y := y) hx hb hd (k ad H locs cells slots lsC hR hL)
  | ixor =>
    obtain ⟨x, y, r, rfl, h'⟩ := xi2_inv h
    clear h
    have h := h'
    cases h
    exact lv_ixor (x := x) (y := y) hx hb hd (k ad H locs cells slots lsC hR hL)
  | idiv =>
    obtain ⟨x, y, r, rfl, h'⟩ := xi2_inv h
    clear h
    have h := h'
    obtain ⟨hne, h⟩ := xif_inv h
    cases h
    exact lv_idiv (x := x) (y := y) hx hb hd hne (k ad H locs cells slots lsC hR hL)
  | irem =>
    obtain ⟨x, y, r, rfl, h'⟩ := xi2_inv h
    clear h
    have h := h'
    obtain ⟨hne, h⟩ := xif_inv h
    cases h
    exact lv_irem (x := x) (y := y) hx hb hd hne (k ad H locs cells slots lsC hR hL)
  | ineg =>
    obtain ⟨x, r, rfl, h'⟩ := xi1_inv h
    clear h
    have h := h'
    cases h
    exact lv_ineg (x := x) hx hb hd (k ad H locs cells slots lsC hR hL)
  | ishl =>
    obtain ⟨x, y, r, rfl, h'⟩ := xi2_inv h
    clear h
    have h := h'
    cases h
    exact lv_ishl (x := x) (y := y) hx hb hd (k ad H locs cells slots lsC hR hL)
  | ishr =>
    obtain ⟨x, y, r, rfl, h'⟩ := xi2_inv h
    clear h
    have h := h'
    cases h
    exact lv_ishr (x := x) (y := y) hx hb hd (k ad H locs cells slots lsC hR hL)
  | iushr =>
    obtain ⟨x, y, r, rfl, h'⟩ := xi2_inv h
    clear h
    have h := h'
    cases h
    exact lv_iushr (x := x) (y := y) hx hb hd rfl (k ad H locs cells slots lsC hR hL)
  | ladd =>
    obtain ⟨x, y, r, rfl, h'⟩ := xj2_inv h
    clear h
    have h := h'
    cases h
    exact lv_ladd (x := x) (y := y) hx hb hd (k ad H locs cells slots lsC hR hL)
  | land =>
    obtain ⟨x, y, r, rfl, h'⟩ := xj2_inv h
    clear h
    have h := h'
    cases h
    exact lv_land (x := x) (y := y) hx hb hd (k ad H locs cells slots lsC hR hL)
  | lor =>
    obtain ⟨x, y, r, rfl, h'⟩ := xj2_inv h
    clear h
    have h := h'
    cases h
    exact lv_lor (x := x) (y := y) hx hb hd (k ad H locs cells slots lsC hR hL)
  | ldiv =>
    obtain ⟨x, y, r, rfl, h'⟩ := xj2_inv h
    clear h
    have h := h'
    obtain ⟨hne, h⟩ := xif_inv h
    cases h
    exact lv_ldiv (x := x) (y := y) hx hb hd hne (k ad H locs cells slots lsC hR hL)
  | lrem =>
    obtain ⟨x, y, r, rfl, h'⟩ := xj2_inv h
    clear h
    have h := h'
    obtain ⟨hne, h⟩ := xif_inv h
    cases h
    exact lv_lrem (x := x) (y := y) hx hb hd hne (k ad H locs cells slots lsC hR hL)
  | lcmp =>
    obtain ⟨x, y, r, rfl, h'⟩ := xj2_inv h
    clear h
    have h := h'
    cases h
    exact W.lcmp (x := x) (y := y) hx hb hd (k ad H locs cells slots lsC hR hL)
  | lshl =>
    obtain ⟨x, y, r, rfl, h'⟩ := xji_inv h
    clear h
    have h := h'
    cases h
    exact lv_lshl (x := x) (y := y) hx hb hd rfl (k ad H locs cells slots lsC hR hL)
  | lshr =>
    obtain ⟨x, y, r, rfl, h'⟩ := xji_inv h
    clear h
    have h := h'
    cases h
    exact lv_lshr (x := x) (y := y) hx hb hd rfl (k ad H locs cells slots lsC hR hL)
  | lushr =>
    obtain ⟨x, y, r, rfl, h'⟩ := xji_inv h
    clear h
    have h := h'
    cases h
    exact lv_lushr (x := x) (y := y) hx hb hd rfl (k ad H locs cells slots lsC hR hL)
  | i2l =>
    obtain ⟨x, r, rfl, h'⟩ := xi1_inv h
    clear h
    have h := h'
    cases h
    exact lv_i2l (x := x) hx hb hd rfl (k ad H locs cells slots lsC hR hL)
  | l2i =>
    obtain ⟨x, r, rfl, h'⟩ := xj1_inv h
    clear h
    have h := h'
    cases h
    exact lv_l2i (x := x) hx hb hd rfl (k ad H locs cells slots lsC hR hL)
  | i2b =>
    obtain ⟨x, r, rfl, h'⟩ := xi1_inv h
    clear h
    have h := h'
    cases h
    exact lv_i2b (x := x) hx hb hd rfl (k ad H locs cells slots lsC hR hL)
  | i2s =>
    obtain ⟨x, r, rfl, h'⟩ := xi1_inv h
    clear h
    have h := h'
    cases h
    exact lv_i2s (x := x) hx hb hd rfl (k ad H locs cells slots lsC hR hL)
  | dup =>
    dsimp only [xstep] at h
    split at h
    · cases h
      exact lv_dup (va := .int _) hx hb hd rfl (k ad H locs cells slots lsC hR hL)
    · cases h
      exact lv_dup (va := .ref _) hx hb hd rfl (k ad H locs cells slots lsC hR hL)
    · cases h
  | pop =>
    obtain ⟨x, r, rfl, h'⟩ := xi1_inv h
    clear h
    have h := h'
    cases h
    exact lv_pop (va := .int x) hx hb hd rfl (k ad H locs cells slots lsC hR hL)
  | goto off =>
    cases h
    exact lv_goto hx hb hd hw (k ad H locs cells slots lsC hR hL)
  | ifCond cnd off =>
    have q := k ad H locs cells slots lsC
    cases cnd with
    | eq =>
      obtain ⟨x, r, rfl, h'⟩ := xi1_inv h
      clear h
      have h := h'
      cases h
      dsimp only at q
      exact lv_if_eq (x := x) hx hb hd hw (fun hc => by rw [if_pos hc] at q; exact q hR hL) (fun hc => by rw [if_neg hc] at q; exact q hR hL)
    | ne =>
      obtain ⟨x, r, rfl, h'⟩ := xi1_inv h
      clear h
      have h := h'
      cases h
      dsimp only at q
      exact lv_if_ne (x := x) hx hb hd hw (fun hc => by rw [if_neg hc] at q; exact q hR hL) (fun hc => by rw [if_pos hc] at q; exact q hR hL)
    | lt =>
      obtain ⟨x, r, rfl, h'⟩ := xi1_inv h
      clear h
      have h := h'
      cases h
      dsimp only at q
      exact lv_if_lt (x := x) hx hb hd hw (fun hc => by rw [if_pos hc] at q; exact q hR hL) (fun hc => by rw [if_neg hc] at q; exact q hR hL)
    | ge =>
      obtain ⟨x, r, rfl, h'⟩ := xi1_inv h
      clear h
      have h := h'
      cases h
      dsimp only at q
      exact lv_if_ge (x := x) hx hb hd hw (fun hc => by rw [if_pos hc] at q; exact q hR hL) (fun hc => by rw [if_neg hc] at q; exact q hR hL)
    | gt =>
      obtain ⟨x, r, rfl, h'⟩ := xi1_inv h
      clear h
      have h := h'
      cases h
      dsimp only at q
      exact lv_if_gt (x := x) hx hb hd hw (fun hc => by rw [if_pos hc] at q; exact q hR hL) (fun hc => by rw [if_neg hc] at q; exact q hR hL)
    | le =>
      obtain ⟨x, r, rfl, h'⟩ := xi1_inv h
      clear h
      have h := h'
      cases h
      dsimp only at q
      exact lv_if_le (x := x) hx hb hd hw (fun hc => by rw [if_pos hc] at q; exact q hR hL) (fun hc => by rw [if_neg hc] at q; exact q hR hL)
  | if_icmp cnd off =>
    have q := k ad H locs cells slots lsC
    cases cnd with
    | eq =>
      obtain ⟨x, y, r, rfl, h'⟩ := xi2_inv h
      clear h
      have h := h'
      cases h
      dsimp only at q
      exact lv_icmp_eq (x := x) (y := y) hx hb hd hw (fun hc => by rw [if_pos hc] at q; exact q hR hL) (fun hc => by rw [if_neg hc] at q; exact q hR hL)
    | ne =>
      obtain ⟨x, y, r, rfl, h'⟩ := xi2_inv h
      clear h
      have h := h'
      cases h
      dsimp only at q
      exact lv_icmp_ne (x := x) (y := y) hx hb hd hw (fun hc => by rw [if_neg hc] at q; exact q hR hL) (fun hc => by rw [if_pos hc] at q; exact q hR hL)
    | lt =>
      obtain ⟨x, y, r, rfl, h'⟩ := xi2_inv h
      clear h
      have h := h'
      cases h
      dsimp only at q
      exact lv_icmp_lt (x := x) (y := y) hx hb hd hw (fun hc => by rw [if_pos hc] at q; exact q hR hL) (fun hc => by rw [if_neg hc] at q; exact q hR hL)
    | ge =>
      obtain ⟨x, y, r, rfl, h'⟩ := xi2_inv h
      clear h
      have h := h'
      cases h
      dsimp only at q
      exact lv_icmp_ge (x := x) (y := y) hx hb hd hw (fun hc => by rw [if_pos hc] at q; exact q hR hL) (fun hc => by rw [if_neg hc] at q; exact q hR hL)
    | gt =>
      obtain ⟨x, y, r, rfl, h'⟩ := xi2_inv h
      clear h
      have h := h'
      cases h
      dsimp only at q
      exact lv_icmp_gt (x := x) (y := y) hx hb hd hw (fun hc => by rw [if_pos hc] at q; exact q hR hL) (fun hc => by rw [if_neg hc] at q; exact q hR hL)
    | le =>
      obtain ⟨x, y, r, rfl, h'⟩ := xi2_inv h
      clear h
      have h := h'
      cases h
      dsimp only at q
      exact lv_icmp_le (x := x) (y := y) hx hb hd hw (fun hc => by rw [if_pos hc] at q; exact q hR hL) (fun hc => by rw [if_neg hc] at q; exact q hR hL)
  | tableswitch dflt lo hi offs =>
    obtain ⟨x, r, rfl, h'⟩ := xi1_inv h
    clear h
    have h := h'
    cases h
    have q := k ad H locs cells slots lsC hR hL
    obtain ⟨h1, h2, h3⟩ := hw
    by_cases hc : x.toInt < lo ∨ hi < x.toInt
    · have e1 : xtsw pc dflt lo hi offs x = ((pc : Int) + dflt).toNat := if_pos hc
      dsimp only at q
      rw [e1] at q
      exact lv_tableOut hx hb hd hc (by omega) q
    · have e1 : xtsw pc dflt lo hi offs x = ((pc : Int) + offs.getD (x.toInt - lo).toNat 0).toNat := if_neg hc
      dsimp only at q
      rw [e1] at q
      have hlt : (x.toInt - lo).toNat < offs.size := by omega
      have e2 : offs[(x.toInt - lo).toNat]? = some (offs.getD (x.toInt - lo).toNat 0) := by
        rw [Array.getD_eq_getD_getElem?, Array.getElem?_eq_getElem hlt]; rfl
      have e3 : 0 ≤ (pc : Int) + offs.getD (x.toInt - lo).toNat 0 := h2 _ (Array.mem_toList_iff.mpr (Array.mem_of_getElem? e2))
      exact lv_tableIn hx hb hd (by omega) (by omega) e2 (by omega) q
  | lookupswitch dflt ps =>
    obtain ⟨x, r, rfl, h'⟩ := xi1_inv h
    clear h
    have h := h'
    cases h
    have q := k ad H locs cells slots lsC hR hL
    obtain ⟨h1, h2, h3⟩ := hw
    have e3 : 0 ≤ (pc : Int) + Op.lookupswitch.offset ps.toList dflt x.toInt := by
      have key : ∀ (l : List (Int × Int)), (∀ o ∈ l, 0 ≤ (pc : Int) + o.2) → 0 ≤ (pc : Int) + Op.lookupswitch.offset l dflt x.toInt := by
        intro l
        induction l with
        | nil => intro _; exact h2
        | cons a l ih =>
          intro hl
          rw [show a = (a.1, a.2) from rfl, Op.lookupswitch.offset_cons]
          split
          · exact hl a List.mem_cons_self
          · exact ih (fun o ho => hl o (List.mem_cons_of_mem _ ho))
      exact key _ h3
    have e4 : (pc : Int) + Op.lookupswitch.offset ps.toList dflt x.toInt = ((xlsw pc dflt ps x : Nat) : Int) := by
      unfold xlsw
      omega
    exact lv_lookup hx hb hd h1 rfl e4 q
  | ireturn =>
    exfalso
    simp only [xstep, Bool.cond_eq_ite] at h
    repeat' split at h
    all_goals cases h
  | _ => first | (exact absurd hins Bool.false_ne_true) | (exact absurd h (by intro h; cases h)) | (dsimp only [xstep] at h; split at h <;> cases h)
theorem xscript {ad : Nat → Nat} {H : Heap} {locs : List Loc} {cells slots : Nat} (X : xCtx M d p l R s m args meth c D dA A E) (hR : xRel D dA A s R n0 ad0 E ad S H locs cells slots) : va_X (ad xscr) S.2.2.2.1 (S.2.1 xscr) s s.heap ∧ ad xscr < s.heap.size ∧ ¬ A (ad xscr) := by
  obtain ⟨-, -, -, -, -, -, -, -, -, -, -, h1, h2, h3, -, h5, -⟩ := X
  obtain ⟨-, -, -, -, -, -, -, -, e1, e2, e3, -⟩ := hR
  rw [e1, e2, e3]
  exact ⟨h1, by omega, fun z => by have := h5 _ z; omega⟩
/-- a cell's ints are written -/
theorem xRel.put {ad : Nat → Nat} {H H1 : Heap} {locs locs1 : List Loc} {cells slots kc : Nat} {q : xG} {en : va_E} {h' : xI} {g' : xJ} {G' : List xG} (hR : xRel D dA A s R n0 ad0 E ad S H locs cells slots)
    (hl : G'.length = S.1.length) (hk : G'[kc]? = some q) (he : xE ad dA h' g' kc q = en) (hkl : kc < 1000)
    (ho : ∀ j, j ≠ kc → G'[j]? = S.1[j]? ∧ h' j = S.2.1 j ∧ g' j = S.2.2.1 j) (hw : xwG G')
    (hP : va_P D xcl ((xW ad dA S).set kc (ad kc, en)) H1) (hD : va_D A ((xW ad dA S).set kc (ad kc, en))) (hS : va_S A s.heap H1 locs1) : xRel D dA A s R n0 ad0 E ad (G', h', g', S.2.2.2) H1 locs1 cells slots := by
  have e1 : (xW ad dA S).set kc (ad kc, en) = xW ad dA (G', h', g', S.2.2.2) := xW_set (S' := (G', h', g', S.2.2.2)) hl hk he ho
  rw [e1] at hP hD
  obtain ⟨-, -, -, h4, h5, -, h7, h8, h9, h10, h11, h12⟩ := hR
  refine ⟨hP, hD, hS, h4, h5, hw, ?_, ?_, h9, ?_, h11, h12⟩
  · show G'.length ≤ 1000
    rw [hl]; exact h7
  · show n0 ≤ G'.length
    rw [hl]; exact h8
  · show h' xscr = _
    rw [(ho xscr (by show (1000 : Nat) ≠ kc; omega)).2.1]
    exact h10
set_option maxHeartbeats 4000000 in
set_option maxRecDepth 100000 in
/-- fields -/
theorem xnext_get {ix : Nat} (X : xCtx M d p l R s m args meth c D dA A E) (hok : xOK M pc (.getfield ix, len, dat)) (h : xstep d (.getfield ix, len, dat) pc ls st S = some (.inl f'))
    (k : xGood M p l e R s m args below meth c D dA A n0 ad0 E Q f') : xGood M p l e R s m args below meth c D dA A n0 ad0 E Q (pc, ls, st, S) := by
  have X0 := X
  obtain ⟨hx, hb, hml, hown, hts, hK, hA, hini, hfr, hlo, -⟩ := X
  obtain ⟨hd, C, T, N, hc, hN, hlk⟩ := hok
  intro ad H locs cells slots lsC hR hL
  obtain ⟨kc, r, rfl, h'⟩ := xr1_inv h
  clear h
  have h := h'
  obtain ⟨ks, hg, h⟩ := xobj_inv h
  dsimp only at hc hN hlk hg h
  split at h
  · rename_i hj
    cases h
    exact va_get (v := .int (S.2.1 kc (dat % 64))) hx hb hts (xcl_ws hc) hown hK hR.1 kc (xW_at hg) hc (dat % 64) hN (hts _ hlk) (fun _ h9 => h9) (xfld_at hj) hd (k ad H locs cells slots lsC hR hL)
  · rename_i v hj
    cases h
    exact va_get (v := .ref (ad v)) hx hb hts (xcl_ws hc) hown hK hR.1 kc (xW_at hg) hc (dat % 64) hN (hts _ hlk) (fun _ h9 => h9) (xfld_at hj) hd (k ad H locs cells slots lsC hR hL)
  · cases h
theorem xcl_ty {ci : Nat} {C : String} {T : u_T} {N : Nat} (hc : xcl[ci]? = some (C, T, N)) : ∀ k, k < N → parseFieldDescriptor (T k).2.2.1 = some ((parseFieldDescriptor (T k).2.2.1).getD .int) := by
  intro k hk
  have := xcl_ps hc k hk
  cases hp : parseFieldDescriptor (T k).2.2.1 with
  | none => rw [hp] at this; cases this
  | some t => rfl
set_option maxHeartbeats 4000000 in
set_option maxRecDepth 100000 in
theorem xnext_put {ix : Nat} (X : xCtx M d p l R s m args meth c D dA A E) (hok : xOK M pc (.putfield ix, len, dat)) (h : xstep d (.putfield ix, len, dat) pc ls st S = some (.inl f'))
    (k : xGood M p l e R s m args below meth c D dA A n0 ad0 E Q f') : xGood M p l e R s m args below meth c D dA A n0 ad0 E Q (pc, ls, st, S) := by
  have X0 := X
  obtain ⟨hx, hb, hml, hown, hts, hK, hA, hini, hfr, hlo, -⟩ := X
  obtain ⟨hd, ⟨C, T, N, hc, hN, hlk⟩, hfin⟩ := hok
  intro ad H locs cells slots lsC hR hL
  dsimp only at hc hN hlk hfin
  obtain ⟨hP, hD, hS, h4, h5, hwG, h7, h8, h9, h10, h11, h12⟩ := id hR
  dsimp only [xstep] at h
  split at h
  · rename_i v kc r
    obtain ⟨hlen0, h⟩ := xnb h
    obtain ⟨ks, hg, h⟩ := xobj_inv h
    split at h
    · rename_i hj
      cases h
      obtain ⟨ty, hty, hte⟩ : ∃ ty, parseFieldDescriptor (T (dat % 64)).2.2.1 = some ty ∧ narrow ty (.int v) = .int v ∧ fits ty (.int v) = true := by
        obtain ⟨-, ty, h1, h2, -⟩ := hfin C T N hc
        cases h2 hlen0
        exact ⟨_, h1, rfl, rfl⟩
      have hlen : dat % 64 < (xfld ad S.2.1 kc ks).length := by rw [xfld_len]; exact (List.getElem?_eq_some_iff.mp hj).1
      have fin : ∀ (H1 : Heap) (locs1 : List Loc), va_P D xcl ((xW ad dA S).set kc (ad kc, .inr (dat / 64, (xfld ad S.2.1 kc ks).set (dat % 64) (.int v)))) H1 → va_D A ((xW ad dA S).set kc (ad kc, .inr (dat / 64, (xfld ad S.2.1 kc ks).set (dat % 64) (.int v)))) → va_S A s.heap H1 locs1 →
          W p l e R s m args below meth c H1 locs1 cells slots Q (F0 m (pc + 3) lsC (r.map (xv ad))) := fun H1 locs1 hP1 hD1 hS1 =>
        k ad H1 locs1 cells slots lsC (hR.put (G' := S.1) (g' := S.2.2.1) (h' := xput S.2.1 kc (dat % 64) v) rfl hg (by show Sum.inr (dat / 64, xfld ad (xput S.2.1 kc (dat % 64) v) kc ks) = _; rw [xfld_put hj]) (Nat.lt_of_lt_of_le (List.getElem?_eq_some_iff.mp hg).1 h7) (fun j hne => ⟨rfl, xput_ne hne, rfl⟩) hwG hP1 hD1 hS1) hL
      by_cases hf : (T (dat % 64)).2.2.2 = true
      · obtain ⟨e1, e2⟩ := (hfin C T N hc).1 hf
        exact va_putF (v := .int v) hx hb hts (xcl_ws hc) _ (xcl_ty hc) (xcl_nm hc) hown hK hP hD hS kc (xW_at hg) hc (dat % 64) hN (hts _ hlk) (fun _ h9 => h9) hf (hini e1) e2 hty hte.1 hte.2 hlen hd fin
      · exact va_put (v := .int v) hx hb hts (xcl_ws hc) _ (xcl_ty hc) (xcl_nm hc) hown hK hP hD hS kc (xW_at hg) hc (dat % 64) hN (hts _ hlk) (fun _ h9 => h9) (by simpa using hf) hty hte.1 hte.2 hlen hd fin
    · cases h
  · rename_i v kc r
    obtain ⟨hlen0, h⟩ := xnb h
    obtain ⟨ks, hg, h⟩ := xobj_inv h
    split at h
    · rename_i w hj
      cases hvb : Nat.blt v S.1.length with
      | false => rw [hvb] at h; cases h
      | true =>
      rw [hvb] at h
      have hvl : v < S.1.length := Nat.blt_eq.mp hvb
      cases h
      have hjl : dat % 64 < ks.length := (List.getElem?_eq_some_iff.mp hj).1
      have hkl : kc < S.1.length := (List.getElem?_eq_some_iff.mp hg).1
      obtain ⟨ty, hty, hte⟩ : ∃ ty, parseFieldDescriptor (T (dat % 64)).2.2.1 = some ty ∧ narrow ty (.ref (ad v)) = .ref (ad v) ∧ fits ty (.ref (ad v)) = true := by
        obtain ⟨-, ty, h1, -, h2⟩ := hfin C T N hc
        rcases h2 hlen0 with ⟨n, rfl⟩ | ⟨t, rfl⟩
        · exact ⟨_, h1, rfl, rfl⟩
        · exact ⟨_, h1, rfl, rfl⟩
      have hlen : dat % 64 < (xfld ad S.2.1 kc ks).length := by rw [xfld_len]; exact hjl
      have hw' : xwG (S.1.set kc (.inl (dat / 64, ks.set (dat % 64) (some (.ref v))))) := by
        intro k2 o j2 v2 hk2 hj2
        rw [List.length_set]
        by_cases e1 : k2 = kc
        · subst e1
          rw [List.getElem?_set_self hkl] at hk2
          cases hk2
          dsimp only at hj2
          by_cases e2 : j2 = dat % 64
          · subst e2
            rw [List.getElem?_set_self hjl] at hj2
            cases hj2
            exact hvl
          · rw [List.getElem?_set_ne (Ne.symm e2)] at hj2
            exact hwG _ _ _ _ hg hj2
        · rw [List.getElem?_set_ne (Ne.symm e1)] at hk2
          exact hwG _ _ _ _ hk2 hj2
      have fin : ∀ (H1 : Heap) (locs1 : List Loc), va_P D xcl ((xW ad dA S).set kc (ad kc, .inr (dat / 64, (xfld ad S.2.1 kc ks).set (dat % 64) (.ref (ad v))))) H1 → va_D A ((xW ad dA S).set kc (ad kc, .inr (dat / 64, (xfld ad S.2.1 kc ks).set (dat % 64) (.ref (ad v))))) → va_S A s.heap H1 locs1 →
          W p l e R s m args below meth c H1 locs1 cells slots Q (F0 m (pc + 3) lsC (r.map (xv ad))) := fun H1 locs1 hP1 hD1 hS1 =>
        k ad H1 locs1 cells slots lsC (hR.put (G' := S.1.set kc (.inl (dat / 64, ks.set (dat % 64) (some (.ref v))))) (g' := S.2.2.1) (h' := S.2.1) (by simp) (List.getElem?_set_self hkl) (by show Sum.inr (dat / 64, xfld ad S.2.1 kc (ks.set (dat % 64) (some (.ref v)))) = _; rw [xfld_ref hjl]) (Nat.lt_of_lt_of_le hkl h7) (fun j hne => ⟨List.getElem?_set_ne (Ne.symm hne), rfl, rfl⟩) hw' hP1 hD1 hS1) hL
      by_cases hf : (T (dat % 64)).2.2.2 = true
      · obtain ⟨e1, e2⟩ := (hfin C T N hc).1 hf
        exact va_putF (v := .ref (ad v)) hx hb hts (xcl_ws hc) _ (xcl_ty hc) (xcl_nm hc) hown hK hP hD hS kc (xW_at hg) hc (dat % 64) hN (hts _ hlk) (fun _ h9 => h9) hf (hini e1) e2 hty hte.1 hte.2 hlen hd fin
      · exact va_put (v := .ref (ad v)) hx hb hts (xcl_ws hc) _ (xcl_ty hc) (xcl_nm hc) hown hK hP hD hS kc (xW_at hg) hc (dat % 64) hN (hts _ hlk) (fun _ h9 => h9) (by simpa using hf) hty hte.1 hte.2 hlen hd fin
    · cases h
  · cases h
theorem xE_int {ad : Nat → Nat} {h : xI} {g : xJ} {k n t : Nat} (ht : t ≠ 3) : xE ad dA h g k (.inr (t, n)) = .inl (dA t, n, .inl (h k)) := if_neg ht
theorem xE_long {ad : Nat → Nat} {h : xI} {g : xJ} {k n : Nat} : xE ad dA h g k (.inr (3, n)) = .inl (dA 3, n, .inr (.inl (g k))) := rfl
theorem xW_ints {ad : Nat → Nat} {k n t : Nat} (ht : t ≠ 3) (h : S.1[k]? = some (.inr (t, n))) : (xW ad dA S)[k]? = some (ad k, .inl (dA t, n, .inl (S.2.1 k))) := by rw [xW_at h, xE_int ht]
theorem xW_longs {ad : Nat → Nat} {k n : Nat} (h : S.1[k]? = some (.inr (3, n))) : (xW ad dA S)[k]? = some (ad k, .inl (dA 3, n, .inr (.inl (S.2.2.1 k)))) := by rw [xW_at h, xE_long]
/-- an array of ints is written -/
theorem xRel.arr {ad : Nat → Nat} {H H1 : Heap} {locs locs1 : List Loc} {cells slots kc n t : Nat} {f : Nat → Int32} (hR : xRel D dA A s R n0 ad0 E ad S H locs cells slots) (ht : t ≠ 3) (hg : S.1[kc]? = some (.inr (t, n)))
    {h' : xI} (hs : h' kc = f) (hn : ∀ j, j ≠ kc → h' j = S.2.1 j)
    (hP : va_P D xcl ((xW ad dA S).set kc (ad kc, .inl (dA t, n, .inl f))) H1) (hD : va_D A ((xW ad dA S).set kc (ad kc, .inl (dA t, n, .inl f)))) (hS : va_S A s.heap H1 locs1) : xRel D dA A s R n0 ad0 E ad (S.1, h', S.2.2) H1 locs1 cells slots :=
  hR.put (G' := S.1) (h' := h') (g' := S.2.2.1) rfl hg (by rw [xE_int ht, hs]) (Nat.lt_of_lt_of_le (List.getElem?_eq_some_iff.mp hg).1 hR.2.2.2.2.2.2.1) (fun j hj => ⟨rfl, hn j hj, rfl⟩) hR.2.2.2.2.2.1 hP hD hS
set_option maxHeartbeats 4000000 in
set_option maxRecDepth 100000 in
/-- arrays -/
theorem xnext_arr {ins : Instr} (X : xCtx M d p l R s m args meth c D dA A E) (hok : xOK M pc (ins, len, dat)) (h : xstep d (ins, len, dat) pc ls st S = some (.inl f'))
    (hins : xisarr ins = true)
    (k : xGood M p l e R s m args below meth c D dA A n0 ad0 E Q f') : xGood M p l e R s m args below meth c D dA A n0 ad0 E Q (pc, ls, st, S) := by
  have X0 := X
  obtain ⟨hx, hb, hml, hown, hts, hK, hA, hini, hfr, hlo, -⟩ := X
  obtain ⟨hd, hw⟩ := hok
  intro ad H locs cells slots lsC hR hL
  obtain ⟨hP, hD, hS, h4, h5, hwG, h7, h8, h9, h10, h11, h12⟩ := id hR
  cases ins with
  | iaload =>
    obtain ⟨j, kc, r, rfl, h'⟩ := xir_inv h
    clear h
    have h := h'
    cases hq : Nat.beq kc xscr with
    | true =>
      rw [hq] at h
      cases Nat.eq_of_beq_eq_true hq
      obtain ⟨hin, h⟩ := xin_inv h
      cases h
      obtain ⟨s1, s2, s3⟩ := xscript X0 hR
      exact va_sld hx hb s1 s2 s3 hS hin hd (k ad H locs cells slots lsC hR hL)
    | false =>
      rw [hq] at h
      obtain ⟨n, hg, h⟩ := xarr_inv h
      obtain ⟨hin, h⟩ := xin_inv h
      cases h
      exact va_iald hx hb hK hP kc 0 (xW_ints (by decide) hg) rfl hin hd (k ad H locs cells slots lsC hR hL)
  | iastore =>
    obtain ⟨x, j, kc, r, rfl, h'⟩ := xiir_inv h
    clear h
    have h := h'
    obtain ⟨n, hg, h⟩ := xarr_inv h
    obtain ⟨hin, h⟩ := xin_inv h
    cases h
    exact va_iast hx hb hK hP hD hS kc 0 (xW_ints (by decide) hg) rfl hin hd (fun H1 locs1 hP1 hD1 hS1 => k ad H1 locs1 cells slots lsC (hR.arr (by decide) hg xput_self (fun j hj => xput_ne hj) hP1 hD1 hS1) hL)
  | baload =>
    obtain ⟨j, kc, r, rfl, h'⟩ := xir_inv h
    clear h
    have h := h'
    rcases xarrB_inv h with ⟨n, hg, h⟩ | ⟨n, hg, h⟩
    · obtain ⟨hin, h⟩ := xin_inv h
      cases h
      exact va_bald hx hb hK hP kc 1 (xW_ints (by decide) hg) rfl hin hd (k ad H locs cells slots lsC hR hL)
    · obtain ⟨hin, h⟩ := xin_inv h
      cases h
      exact va_zald hx hb hK hP kc 2 (xW_ints (by decide) hg) rfl hin hd (k ad H locs cells slots lsC hR hL)
  | bastore =>
    obtain ⟨x, j, kc, r, rfl, h'⟩ := xiir_inv h
    clear h
    have h := h'
    rcases xarrB_inv h with ⟨n, hg, h⟩ | ⟨n, hg, h⟩
    · obtain ⟨hin, h⟩ := xin_inv h
      cases h
      exact va_bast hx hb hK hP hD hS kc 1 (xW_ints (by decide) hg) rfl hin hd (fun H1 locs1 hP1 hD1 hS1 => k ad H1 locs1 cells slots lsC (hR.arr (by decide) hg xput_self (fun j hj => xput_ne hj) hP1 hD1 hS1) hL)
    · obtain ⟨hin, h⟩ := xin_inv h
      cases h
      exact va_zast hx hb hK hP hD hS kc 2 (xW_ints (by decide) hg) rfl hin hd (fun H1 locs1 hP1 hD1 hS1 => k ad H1 locs1 cells slots lsC (hR.arr (by decide) hg xput_self (fun j hj => xput_ne hj) hP1 hD1 hS1) hL)
  | laload =>
    obtain ⟨j, kc, r, rfl, h'⟩ := xir_inv h
    clear h
    have h := h'
    obtain ⟨n, hg, h⟩ := xarr_inv h
    obtain ⟨hin, h⟩ := xin_inv h
    cases h
    exact va_lald hx hb hK hP kc 3 (xW_longs hg) rfl hin hd (k ad H locs cells slots lsC hR hL)
  | lastore =>
    obtain ⟨x, j, kc, r, rfl, h'⟩ := xjir_inv h
    clear h
    have h := h'
    obtain ⟨n, hg, h⟩ := xarr_inv h
    obtain ⟨hin, h⟩ := xin_inv h
    cases h
    exact va_last hx hb hK hP hD hS kc 3 (xW_longs hg) rfl hin hd (fun H1 locs1 hP1 hD1 hS1 => k ad H1 locs1 cells slots lsC
      (hR.put (G' := S.1) (h' := S.2.1) (g' := xputL S.2.2.1 kc j.toNatClampNeg x) rfl hg (by rw [xE_long, xputL_self]) (Nat.lt_of_lt_of_le (List.getElem?_eq_some_iff.mp hg).1 h7) (fun j hj => ⟨rfl, rfl, xputL_ne hj⟩) hwG hP1 hD1 hS1) hL)
  | arraylength =>
    obtain ⟨kc, r, rfl, h'⟩ := xr1_inv h
    clear h
    have h := h'
    cases hq : Nat.beq kc xscr with
    | true =>
      rw [hq] at h
      cases Nat.eq_of_beq_eq_true hq
      cases h
      obtain ⟨s1, s2, s3⟩ := xscript X0 hR
      exact va_slen hx hb s1 s2 s3 hS hd (k ad H locs cells slots lsC hR hL)
    | false =>
      rw [hq] at h
      dsimp only [cond] at h
      split at h
      · rename_i t n hg
        cases ht : Nat.blt t 4 with
        | false => rw [ht] at h; cases h
        | true =>
        rw [ht] at h
        cases h
        have ht : t < 4 := Nat.blt_eq.mp ht
        have ht : t = 0 ∨ t = 1 ∨ t = 2 ∨ t = 3 := by omega
        rcases ht with rfl | rfl | rfl | rfl
        · exact va_alen hx hb hK hP kc 0 (xW_ints (by decide) hg) rfl rfl hd (k ad H locs cells slots lsC hR hL)
        · exact va_alen hx hb hK hP kc 1 (xW_ints (by decide) hg) rfl rfl hd (k ad H locs cells slots lsC hR hL)
        · exact va_alen hx hb hK hP kc 2 (xW_ints (by decide) hg) rfl rfl hd (k ad H locs cells slots lsC hR hL)
        · exact va_alen hx hb hK hP kc 3 (xW_longs hg) rfl rfl hd (k ad H locs cells slots lsC hR hL)
      · cases h
  | _ => exact absurd hins Bool.false_ne_true
end XN
end
section
/-! New cells; calls without a body. -/
def xad (ad : Nat → Nat) (n q : Nat) : Nat → Nat := fun k => if k = n then q else ad k
theorem xad_ne {ad : Nat → Nat} {n q k : Nat} (h : k ≠ n) : xad ad n q k = ad k := if_neg h
theorem xad_self {ad : Nat → Nat} {n q : Nat} : xad ad n q n = q := if_pos rfl
section XM
variable {M : xM} {d : Nat} {p : Program} {l : Launch} {e : Env} {R : Room} {s : State} {m : MethodId} {args : Array Value} {below : List Frame} {meth : Method} {c : Code} {D : va_G} {dA : Nat → ClassId} {A : Nat → Prop} {n0 : Nat} {ad0 : Nat → Nat} {E : xP0} {Q : State → Prop}
variable {pc len dat : Nat} {ls : List (Option Value)} {st : List Value} {S : xS} {f' : xF}
theorem xv_ag {ad ad' : Nat → Nat} {v : Value} (h : ∀ k, v = .ref k → ad' k = ad k) : xv ad' v = xv ad v := by
  cases v with
  | ref k => show Value.ref (ad' k) = Value.ref (ad k); rw [h k rfl]
  | _ => rfl
theorem xE_ag {ad ad' : Nat → Nat} {h h' : xI} {g g' : xJ} {k : Nat} {q : xG} (hh : h' k = h k) (hg : g' k = g k) (hv : ∀ (o : Nat × List (Option Value)) (j v : Nat), q = .inl o → o.2[j]? = some (some (.ref v)) → ad' v = ad v) : xE ad' dA h' g' k q = xE ad dA h g k q := by
  cases q with
  | inl o =>
    show Sum.inr (o.1, xfld ad' h' k o.2) = Sum.inr (o.1, xfld ad h k o.2)
    have : xfld ad' h' k o.2 = xfld ad h k o.2 := by
      apply List.ext_getElem?
      intro j
      simp only [xfld, List.getElem?_mapIdx]
      cases ho : o.2[j]? with
      | none => rfl
      | some w =>
        cases w with
        | none => simp [xfd, hh]
        | some v =>
          simp only [Option.map_some, xfd]
          rw [xv_ag (fun k2 hk2 => hv o j k2 rfl (by rw [ho, hk2]))]
    rw [this]
  | inr a => simp only [xE, hh, hg]
/-- the world behind a new cell -/
theorem xW_push {ad : Nat → Nat} {G : List xG} {h h' : xI} {g g' : xJ} {z z' : Nat × Nat × Nat} {q0 : xG} {a : Nat} {en : va_E} (hw : xwG G) (hh : ∀ k, k ≠ G.length → h' k = h k ∧ g' k = g k) (he : xE (xad ad G.length a) dA h' g' G.length q0 = en) :
    xW (xad ad G.length a) dA (G ++ [q0], h', g', z') = xW ad dA (G, h, g, z) ++ [(a, en)] := by
  subst he
  apply List.ext_getElem?
  intro j
  by_cases hj : j < G.length
  · have hq := List.getElem?_eq_getElem hj
    rw [List.getElem?_append_left (by rw [xW_len]; exact hj), xW_at (S := (G, h, g, z)) hq, xW_at (S := (G ++ [q0], h', g', z')) (q := G[j]) (by show (G ++ [q0])[j]? = _; rw [List.getElem?_append_left hj]; exact hq)]
    obtain ⟨e1, e2⟩ := hh j (by omega)
    show some (xad ad G.length a j, xE (xad ad G.length a) dA h' g' j G[j]) = some (ad j, xE ad dA h g j G[j])
    rw [xad_ne (by omega), xE_ag e1 e2 (fun o i v ho hi => xad_ne (by have := hw j o i v (by rw [hq, ho]) hi; omega))]
  · by_cases hj2 : j = G.length
    · subst hj2
      rw [List.getElem?_append_right (by rw [xW_len]; exact Nat.le_refl _), xW_at (S := (G ++ [q0], h', g', z')) (q := q0) (by show (G ++ [q0])[G.length]? = _; simp)]
      show some (xad ad G.length a G.length, _) = _
      rw [xad_self, xW_len]
      simp
    · rw [List.getElem?_eq_none (by rw [xW_len]; simp; omega), List.getElem?_eq_none (by simp [xW_len]; omega)]
theorem xwG_push {G : List xG} {q0 : xG} (hw : xwG G) (h0 : ∀ (o : Nat × List (Option Value)) (j v : Nat), q0 = .inl o → o.2[j]? ≠ some (some (.ref v))) : xwG (G ++ [q0]) := by
  intro k o j v hk hj
  rw [List.length_append]
  by_cases hl : k < G.length
  · rw [List.getElem?_append_left hl] at hk
    have := hw k o j v hk hj
    omega
  · rw [List.getElem?_append_right (by omega)] at hk
    have hz : k - G.length = 0 := by
      have := (List.getElem?_eq_some_iff.mp hk).1
      simp at this
      omega
    rw [hz] at hk
    cases hk
    exact absurd hj (h0 o j v rfl)
theorem xRel.push {ad : Nat → Nat} {H H1 : Heap} {locs locs1 : List Loc} {cells slots a w : Nat} {h' : xI} {g' : xJ} {q0 : xG} {en : va_E} (hR : xRel D dA A s R n0 ad0 E ad S H locs cells slots) (hlt : S.1.length < 1000) (hh : ∀ k, k ≠ S.1.length → h' k = S.2.1 k ∧ g' k = S.2.2.1 k)
    (h0 : ∀ (o : Nat × List (Option Value)) (j v : Nat), q0 = .inl o → o.2[j]? ≠ some (some (.ref v))) (he : xE (xad ad S.1.length a) dA h' g' S.1.length q0 = en) (hc : S.2.2.2.2.1 ≠ 0) (hz : w ≤ S.2.2.2.2.2)
    (hP : va_P D xcl (xW ad dA S ++ [(a, en)]) H1) (hD : va_D A (xW ad dA S ++ [(a, en)])) (hS : va_S A s.heap H1 locs1) :
    xRel D dA A s R n0 ad0 E (xad ad S.1.length a) (S.1 ++ [q0], h', g', S.2.2.2.1, S.2.2.2.2.1 - 1, S.2.2.2.2.2 - w) H1 locs1 (cells + 1) (slots + w) := by
  obtain ⟨G, h, g, L, cc, zz⟩ := S
  dsimp only at *
  have e1 := xW_push (dA := dA) (z := (L, cc, zz)) (z' := (L, cc - 1, zz - w)) hR.2.2.2.2.2.1 hh he
  rw [← e1] at hP hD
  obtain ⟨-, -, -, h4, h5, h6, h7, h8, h9, h10, h11, h12⟩ := hR
  dsimp only at *
  refine ⟨hP, hD, hS, ?_, ?_, xwG_push h6 h0, ?_, ?_, h9, ?_, ?_, fun k hk => ?_⟩
  · dsimp only; omega
  · dsimp only; omega
  · simp; omega
  · simp; omega
  · dsimp only
    rw [(hh xscr (by show (1000 : Nat) ≠ G.length; omega)).1]
    exact h10
  · rw [xad_ne (by show (1000 : Nat) ≠ G.length; omega)]
    exact h11
  · rw [xad_ne (by omega)]
    exact h12 k hk
theorem xad_ag {ad : Nat → Nat} {n a : Nat} (hlt : n < 1000) : ∀ k, k < n ∨ k = xscr → xad ad n a k = ad k := fun k hk => xad_ne (by have hk : k < n ∨ k = 1000 := hk; omega)
theorem xnb2 {a b : Bool} {α : Type} {f : Option α} {o : α} (h : (bif !(a && b) then none else f) = some o) : a = true ∧ b = true ∧ f = some o := by
  cases a <;> cases b <;> first | exact ⟨rfl, rfl, h⟩ | cases h
set_option maxHeartbeats 4000000 in
set_option maxRecDepth 100000 in
theorem xnext_new {ix : Nat} (X : xCtx M d p l R s m args meth c D dA A E) (hok : xOK M pc (.new ix, len, dat)) (h : xstep d (.new ix, len, dat) pc ls st S = some (.inl f'))
    (k : xGood M p l e R s m args below meth c D dA A n0 ad0 E Q f') : xGood M p l e R s m args below meth c D dA A n0 ad0 E Q (pc, ls, st, S) := by
  obtain ⟨hx, hb, hml, hown, hts, hK, hA, hini, hfr, hlo, -⟩ := X
  obtain ⟨hd, hw⟩ := hok
  intro ad H locs cells slots lsC hR0 hL0
  have hR : xRel D dA A s R n0 ad0 E ad S H locs cells slots := hR0
  have hL : xlv ad lsC M.2.2.2.1 ls := hL0
  dsimp only [xstep] at h
  cases hq : Nat.blt dat 100 with
  | false =>
    rw [hq] at h
    dsimp only [cond] at h
    split at h <;> cases h
  | true =>
    rw [hq] at h
    dsimp only [cond] at h
    obtain ⟨C, T, N, hc, w1, w2, w3, ks, hks, hlen, hkd⟩ := hw.2 (Nat.blt_eq.mp hq)
    dsimp only at hc w1 hks
    subst hlen
    rw [hks] at h
    dsimp only at h
    obtain ⟨hg, h⟩ := xif_inv h
    obtain ⟨o1, o2, h⟩ := xnb2 h
    cases h
    obtain ⟨hP, hD, hS, h4, h5, hwG, h7, h8, h9, h10, h11, h12⟩ := id hR
    have hlt : S.1.length < 1000 := by omega
    have hfs : ∀ (ad' : Nat → Nat), xfld ad' (xset S.2.1 S.1.length (fun _ => 0)) S.1.length ks = ks.map (fun o => match o with
        | none => Value.int 0
        | some _ => Value.null) := by
      intro ad'
      apply List.ext_getElem?
      intro j
      simp only [xfld, List.getElem?_mapIdx, List.getElem?_map]
      by_cases hj : j < ks.length
      · rcases hkd j hj with ⟨e1, -⟩ | ⟨e1, -⟩
        · rw [e1]; simp [xfd, xset]
        · rw [e1]; rfl
      · rw [List.getElem?_eq_none (by omega)]; rfl
    refine va_new (ci := dat) (fs := ks.map (fun o => match o with
        | none => Value.int 0
        | some _ => Value.null)) hx hb hts (xcl_ws hc) _ (xcl_ty hc) hown (hts _ w1) (hts _ w2) (hts _ w3) hK hP hD hS hA hc (fun j hj => ?_) (by omega) (by omega) hd (fun q H1 hP1 hD1 hS1 => ?_)
    · rcases hkd j hj with ⟨e1, e2⟩ | ⟨e1, ty, e2, e3⟩
      · rw [e2]
        simp [vp_V, e1, defaultValue]
      · rw [e2]
        simp [vp_V, e1, e3]
    · have hag := xad_ag (ad := ad) (a := q) hlt
      have e1 := k (xad ad S.1.length q) H1 locs (cells + 1) (slots + ks.length) lsC (by
        have := hR.push (a := q) (w := ks.length) (q0 := .inl (dat, ks)) (h' := xset S.2.1 S.1.length (fun _ => 0)) (g' := S.2.2.1) hlt (fun k hk => ⟨xset_ne hk, rfl⟩) (fun o j v ho hj => by
          cases ho
          by_cases hjN : j < ks.length
          · rcases hkd j hjN with ⟨e1, -⟩ | ⟨e1, -⟩
            · rw [e1] at hj; cases hj
            · rw [e1] at hj; cases hj
          · rw [List.getElem?_eq_none (by dsimp only; omega)] at hj
            cases hj) (by show Sum.inr (dat, xfld _ _ _ ks) = _; rw [hfs]) (by omega) (by omega) hP1 hD1 hS1
        exact this) (hL.ag hag o1)
      dsimp only at e1
      rw [List.map_cons, xoks_map hag (xoks_mem o2)] at e1
      rw [show xv (xad ad S.1.length q) (.ref S.1.length) = .ref q by show Value.ref _ = _; rw [xad_self]] at e1
      exact e1
theorem xcA {cA : ClassId} {ty : FieldType} {t : Nat} (ht : (xtys dA)[t]? = some (dA t, ty)) (hK : va_K D xcl (xtys dA) s) (hK1 : va_K D xcl (xtys dA ++ [(cA, ty)]) s) (hp : ∀ C, ty ≠ .object C) : cA = dA t := by
  have h1 := (hK.2 t _ ht).2
  have h2 := (hK1.2 4 (cA, ty) rfl).2
  cases ty with
  | object C => exact absurd rfl (hp C)
  | _ => exact Option.some.inj (h2.symm.trans h1)
set_option maxHeartbeats 4000000 in
set_option maxRecDepth 100000 in
theorem xnext_newa {t : ArrayType} (X : xCtx M d p l R s m args meth c D dA A E) (hok : xOK M pc (.newarray t, len, dat)) (h : xstep d (.newarray t, len, dat) pc ls st S = some (.inl f'))
    (k : xGood M p l e R s m args below meth c D dA A n0 ad0 E Q f') : xGood M p l e R s m args below meth c D dA A n0 ad0 E Q (pc, ls, st, S) := by
  obtain ⟨hx, hb, hml, hown, hts, hK, hA, hini, hfr, hlo, -⟩ := X
  obtain ⟨hd, hw⟩ := hok
  intro ad H locs cells slots lsC hR0 hL0
  have hR : xRel D dA A s R n0 ad0 E ad S H locs cells slots := hR0
  have hL : xlv ad lsC M.2.2.2.1 ls := hL0
  obtain ⟨n, r, rfl, h'⟩ := xi1_inv h
  clear h
  have h := h'
  obtain ⟨hg, h⟩ := xif_inv h
  obtain ⟨o1, o2, h⟩ := xnb2 h
  obtain ⟨hP, hD, hS, h4, h5, hwG, h7, h8, h9, h10, h11, h12⟩ := id hR
  have hlt : S.1.length < 1000 := by omega
  have ho2 : ∀ v ∈ r, xokv S.1.length v = true := fun v hv => xoks_mem o2 v (List.mem_cons_of_mem _ hv)
  have hn0 : ¬ n < 0 := fun z => hg (Or.inl z)
  have hn1 : n.toNatClampNeg ≤ 4096 := Nat.le_of_not_lt fun z => hg (Or.inr (Or.inl z))
  have hc0 : S.2.2.2.2.1 ≠ 0 := fun z => hg (Or.inr (Or.inr (Or.inl z)))
  have hz0 : n.toNatClampNeg ≤ S.2.2.2.2.2 := Nat.le_of_not_lt fun z => hg (Or.inr (Or.inr (Or.inr (Or.inl z))))
  have noref : ∀ (tt : Nat) (o : Nat × List (Option Value)) (j v : Nat), (Sum.inr (tt, n.toNatClampNeg) : xG) = .inl o → o.2[j]? ≠ some (some (.ref v)) := fun _ _ _ _ z => by cases z
  cases t with
  | int =>
    cases h
    refine va_newa (a0 := (n.toNatClampNeg, .inl (fun _ => 0))) (rest := r.map (xv ad)) hx hb (hts _ hw) rfl hK hP hD hS hA (fun cA => rfl) hn0 rfl (by show _ * 4 ≤ _; omega) (by omega) (by omega) hd (fun q cA H1 hK1 hP1 hD1 hS1 => ?_)
    cases xcA (t := 0) rfl hK hK1 (fun _ z => by cases z)
    have hag := xad_ag (ad := ad) (a := q) hlt
    have e1 := k (xad ad S.1.length q) H1 locs (cells + 1) (slots + n.toNatClampNeg) lsC (hR.push (q0 := .inr (0, n.toNatClampNeg)) hlt (fun k hk => ⟨xset_ne hk, rfl⟩) (noref 0) (by rw [xE_int (by decide), xset_self]) hc0 hz0 hP1 hD1 hS1) (hL.ag hag o1)
    dsimp only at e1
    rw [List.map_cons, xoks_map hag ho2] at e1
    rw [show xv (xad ad S.1.length q) (.ref S.1.length) = .ref q by show Value.ref _ = _; rw [xad_self]] at e1
    exact e1
  | byte =>
    cases h
    refine va_newa (a0 := (n.toNatClampNeg, .inl (fun _ => 0))) (rest := r.map (xv ad)) hx hb (hts _ hw) rfl hK hP hD hS hA (fun cA => rfl) hn0 rfl (by show _ * 1 ≤ _; omega) (by omega) (by omega) hd (fun q cA H1 hK1 hP1 hD1 hS1 => ?_)
    cases xcA (t := 1) rfl hK hK1 (fun _ z => by cases z)
    have hag := xad_ag (ad := ad) (a := q) hlt
    have e1 := k (xad ad S.1.length q) H1 locs (cells + 1) (slots + n.toNatClampNeg) lsC (hR.push (q0 := .inr (1, n.toNatClampNeg)) hlt (fun k hk => ⟨xset_ne hk, rfl⟩) (noref 1) (by rw [xE_int (by decide), xset_self]) hc0 hz0 hP1 hD1 hS1) (hL.ag hag o1)
    dsimp only at e1
    rw [List.map_cons, xoks_map hag ho2] at e1
    rw [show xv (xad ad S.1.length q) (.ref S.1.length) = .ref q by show Value.ref _ = _; rw [xad_self]] at e1
    exact e1
  | boolean =>
    cases h
    refine va_newa (a0 := (n.toNatClampNeg, .inl (fun _ => 0))) (rest := r.map (xv ad)) hx hb (hts _ hw) rfl hK hP hD hS hA (fun cA => rfl) hn0 rfl (by show _ * 1 ≤ _; omega) (by omega) (by omega) hd (fun q cA H1 hK1 hP1 hD1 hS1 => ?_)
    cases xcA (t := 2) rfl hK hK1 (fun _ z => by cases z)
    have hag := xad_ag (ad := ad) (a := q) hlt
    have e1 := k (xad ad S.1.length q) H1 locs (cells + 1) (slots + n.toNatClampNeg) lsC (hR.push (q0 := .inr (2, n.toNatClampNeg)) hlt (fun k hk => ⟨xset_ne hk, rfl⟩) (noref 2) (by rw [xE_int (by decide), xset_self]) hc0 hz0 hP1 hD1 hS1) (hL.ag hag o1)
    dsimp only at e1
    rw [List.map_cons, xoks_map hag ho2] at e1
    rw [show xv (xad ad S.1.length q) (.ref S.1.length) = .ref q by show Value.ref _ = _; rw [xad_self]] at e1
    exact e1
  | long =>
    cases h
    refine va_newa (a0 := (n.toNatClampNeg, .inr (.inl (fun _ => 0)))) (rest := r.map (xv ad)) hx hb (hts _ hw) rfl hK hP hD hS hA (fun cA => rfl) hn0 rfl (by show _ * 8 ≤ _; omega) (by omega) (by omega) hd (fun q cA H1 hK1 hP1 hD1 hS1 => ?_)
    cases xcA (t := 3) rfl hK hK1 (fun _ z => by cases z)
    have hag := xad_ag (ad := ad) (a := q) hlt
    have e1 := k (xad ad S.1.length q) H1 locs (cells + 1) (slots + n.toNatClampNeg) lsC (hR.push (q0 := .inr (3, n.toNatClampNeg)) hlt (fun k hk => ⟨rfl, xsetL_ne hk⟩) (noref 3) (by rw [xE_long, xsetL_self]) hc0 hz0 hP1 hD1 hS1) (hL.ag hag o1)
    dsimp only at e1
    rw [List.map_cons, xoks_map hag ho2] at e1
    rw [show xv (xad ad S.1.length q) (.ref S.1.length) = .ref q by show Value.ref _ = _; rw [xad_self]] at e1
    exact e1
  | _ => cases h
end XM
end
section
/-! Contracts of the small machine's runs; calls. -/
def xroom (d : Nat) (S : xS) : Room := { frames := d, cells := S.2.2.2.2.1, slots := S.2.2.2.2.2, locals := d * 35 }
/-- a method's start: its arguments, its world, what is old -/
def xPc (D : va_G) (dA : Nat → ClassId) (E : xP0) (ad : Nat → Nat) (vs : List Value) (S : xS) (sz : Nat) : Array Value → State → Prop := fun a U =>
  a = (vs.map (xv ad)).toArray ∧ U.heap.size = sz ∧ va_P D xcl (xW ad dA S) U.heap ∧ va_D (fun q => E.1.heap.size ≤ q) (xW ad dA S) ∧ va_K D xcl (xtys dA) U ∧ va_X E.2.1 E.2.2.1 E.2.2.2 U U.heap ∧ E.2.1 < E.1.heap.size ∧ E.1.heap.size ≤ U.heap.size ∧ (∀ q, q < E.1.heap.size → U.heap[q]? = E.1.heap[q]?) ∧
  xwG S.1 ∧ S.1.length ≤ 1000 ∧ S.2.2.2.1 = E.2.2.1 ∧ S.2.1 xscr = E.2.2.2 ∧ ad xscr = E.2.1 ∧ E.1.WarmedH U.vm
/-- how an end is told -/
def xOut (ad : Nat → Nat) (X : String → Nat → Prop) : xO → State → Outcome → Prop
  | .inl v, _, o => o = .returned (v.map (xv ad))
  | .inr k, t, o => ∃ (a : Nat) (cell : Cell) (C : String), o = .threw a ∧ X C k ∧ t.heap[a]? = some cell ∧ cell.vm.isStatics = false ∧ t.vm.findClass C = some cell.cls
def xexc (C : String) (k : Nat) : Prop := xexN[k]? = some C
/-- a method's end: the new world; what is not its own stays -/
def xQc (D : va_G) (dA : Nat → ClassId) (E : xP0) (ad : Nat → Nat) (S : xS) (sz : Nat) (out : xO) (S' : xS) : State → Outcome → State → Prop := fun st o t =>
  ∃ ad' : Nat → Nat, xOut ad' xexc out t o ∧ va_P D xcl (xW ad' dA S') t.heap ∧ va_D (va_A (xW ad dA S) sz) (xW ad' dA S') ∧ va_F (va_A (xW ad dA S) sz) st t ∧ xwG S'.1 ∧ S'.1.length ≤ 1000 ∧ S.1.length ≤ S'.1.length ∧
    S'.2.2.2.1 = E.2.2.1 ∧ S'.2.1 xscr = E.2.2.2 ∧ ad' xscr = E.2.1 ∧ ∀ k, k < S.1.length → ad' k = ad k
/-- .. and its frame -/
def xQf (A : Nat → Prop) (mc ms : Nat) : State → State → Prop := fun st t => st.WarmedH t.vm ∧ ∃ L, st.sameButNew ({ t with vm := st.vm } : State) L mc ms ∧ ∀ q ∈ L, A q.base
def xMet (l : Launch) (M : xM) (d : Nat) (D : va_G) (dA : Nat → ClassId) (E : xP0) (ad : Nat → Nat) (vs : List Value) (S : xS) (sz : Nat) (out : xO) (S' : xS) : Prop :=
  MetFree l M.2.1 (headSpec xWS (xroom d S)) (xPc D dA E ad vs S sz) (fun _ _ _ _ _ => True) (fun _ st o t => xQc D dA E ad S sz out S' st o t ∧ xQf (va_A (xW ad dA S) sz) (S.2.2.2.2.1 - S'.2.2.2.2.1) (S.2.2.2.2.2 - S'.2.2.2.2.2) st t)
/-- what the tables have for a method -/
def xMok (K : xM) : Prop := Cond.initialized K.2.1.cls ∈ xWS ∧ (K.2.2.2.2.2.2 = [] → Cond.code K.2.1 K.2.2.1 K.2.2.2.1 K.2.2.2.2.1 ∈ xWS) ∧ plainName K.2.1.cls = true ∧ K.2.2.2.1 ≤ 16 ∧ (K.2.1.cls ≠ "java/lang/invoke/MethodHandle" ∧ K.2.1.cls ≠ "java/lang/invoke/VarHandle") ∧ K.1 = K.2.1.cls ∧
  (∀ pc i, xat K.2.2.2.2.2.1 pc = some i → xOK K pc i) ∧ (K.2.2.2.2.2.2 ≠ [] → Cond.codeWith K.2.1 K.2.2.1 K.2.2.2.1 K.2.2.2.2.1 (K.2.2.2.2.2.2.map fun h => (h.1, h.2.1, h.2.2.1, h.2.2.2.1)) ∈ xWS) ∧ ∀ h ∈ K.2.2.2.2.2.2, h.2.2.2.1 ≠ 0 ∧ ∃ X, xexN[h.2.2.2.2]? = some X ∧ Cond.classLink K.1 h.2.2.2.1 X ∈ xWS
theorem W.mono {p : Program} {l : Launch} {e : Env} {R : Room} {s : State} {m : MethodId} {args : Array Value} {below : List Frame} {meth : Method} {c : Code} {H : Heap} {locs : List Loc} {cells slots : Nat} {Q Q' : State → Prop} {g : JFrame} (h : ∀ t, Q t → Q' t)
    (w : W p l e R s m args below meth c H locs cells slots Q g) : W p l e R s m args below meth c H locs cells slots Q' g := fun T hT X => by
  obtain ⟨t, a, b⟩ := w T hT X
  exact ⟨t, a, h t b⟩
theorem xPc_blind (D : va_G) (dA : Nat → ClassId) (E : xP0) (ad : Nat → Nat) (vs : List Value) (S : xS) (sz : Nat) : FrameBlind (xPc D dA E ad vs S sz) := by
  intro a U g mk h
  obtain ⟨h1, h2, h3, h4, h5, h6, h7⟩ := h
  exact ⟨h1, h2, h3, h4, va_K.moved (u := U) (U := U.calling g mk a) (Vm.Alike.refl U.vm) h5, va_X.moved (u := U) (U := U.calling g mk a) (Vm.Alike.refl U.vm) h6, h7⟩
section XK
variable {d : Nat} {p : Program} {l : Launch} {e : Env} {R : Room} {s : State} {m : MethodId} {args : Array Value} {below : List Frame} {meth : Method} {c : Code} {D : va_G} {dA : Nat → ClassId} {A : Nat → Prop} {n0 : Nat} {ad0 : Nat → Nat} {E : xP0} {Q : State → Prop}
variable {M K : xM} {pc : Nat} {ls : List (Option Value)} {vs rest st : List Value} {S S' : xS}
theorem xws_at (hts : ∀ w ∈ xWS, w.before args s = true) : ∀ w ∈ xWS, ∀ (a' : Array Value) (U : State), s.WarmedH U.vm → w.before a' U = true := fun w hw a' U hW => word_at hW (xWS_good w hw) (hts w hw)
/-- the callee's start at the call -/
theorem xPc_at {ad : Nat → Nat} {H : Heap} {locs : List Loc} {cells slots : Nat} (X : xCtx M d p l R s m args meth c D dA A E) (hR : xRel D dA A s R n0 ad0 E ad S H locs cells slots) (vs : List Value) (U : State) (hU : U.heap = H) (hW : s.WarmedH U.vm) : xPc D dA E ad vs S H.size (vs.map (xv ad)).toArray U := by
  obtain ⟨hx, hb, hml, hown, hts, hK, hA, hini, hfr, hlo, hok, x1, x2, x3, x4, x5, x6, -⟩ := X
  obtain ⟨hP, hD, hS, h4, h5, hwG, h7, h8, h9, h10, h11, h12⟩ := hR
  have hold : ∀ q, q < E.1.heap.size → H[q]? = E.1.heap[q]? := fun q hq => (hS.2.1 q (by omega) (fun z => by have := x5 q z; omega)).trans (x4 q hq)
  refine ⟨rfl, by rw [hU], by rw [hU]; exact hP, hD.weaken (fun _ q _ hq => x5 q.1 hq), va_K.moved hW.alike hK, ?_, x2, ?_, fun q hq => by rw [hU]; exact hold q hq, hwG, h7, h9, h10, h11, State.WarmedH.trans x6 hW⟩
  · refine va_X.moved hW.alike (va_X.kept x1 ?_)
    rw [hU, hold _ x2, x4 _ x2]
  · rw [hU]
    exact Nat.le_trans x3 hS.1
/-- the caller's state behind the call -/
theorem xRel.back {ad : Nat → Nat} {H : Heap} {locs L : List Loc} {cells slots : Nat} {out : xO} {st0 t : State} {o : Outcome} (hA : ∀ q, s.heap.size ≤ q → A q) (hR : xRel D dA A s R n0 ad0 E ad S H locs cells slots) (h0 : st0.heap = H) (hc : S'.2.2.2.2.1 ≤ S.2.2.2.2.1) (hz : S'.2.2.2.2.2 ≤ S.2.2.2.2.2)
    (hq : xQc D dA E ad S H.size out S' st0 o t) (hL : ∀ q ∈ L, va_A (xW ad dA S) H.size q.base) :
    ∃ ad' : Nat → Nat, xOut ad' xexc out t o ∧ xRel D dA A s R n0 ad0 E ad' S' t.heap (locs ++ L) (cells + (S.2.2.2.2.1 - S'.2.2.2.2.1)) (slots + (S.2.2.2.2.2 - S'.2.2.2.2.2)) ∧ ∀ k, k < S.1.length ∨ k = xscr → ad' k = ad k := by
  obtain ⟨hP, hD, hS, h4, h5, hwG, h7, h8, h9, h10, h11, h12⟩ := hR
  obtain ⟨ad', q1, q2, q3, q4, q5, q6, q7, q8, q9, q10, q11⟩ := hq
  have hin : ∀ q, va_A (xW ad dA S) H.size q → A q := by
    rintro q (⟨k, en, hk⟩ | hq)
    · exact hD.2 k _ hk
    · exact hA q (Nat.le_trans hS.1 hq)
  refine ⟨ad', q1, ⟨q2, q3.weaken (fun _ q _ h => hin _ h), ⟨?_, fun q h1 h2 => ?_, fun q hq => ?_⟩, by omega, by omega, q5, q6, by omega, q8, q9, q10, fun k hk => ?_⟩, fun k hk => ?_⟩
  · have := q4.1
    rw [h0] at this
    exact Nat.le_trans hS.1 this
  · have := q4.2 q (by rw [h0]; exact Nat.lt_of_lt_of_le h1 hS.1) (fun z => h2 (hin q z))
    rw [this, h0]
    exact hS.2.1 q h1 h2
  · rcases List.mem_append.mp hq with h | h
    · exact hS.2.2 q h
    · exact hin _ (hL q h)
  · rw [q11 k (by omega)]
    exact h12 k hk
  · rcases hk with hk | rfl
    · exact q11 k hk
    · rw [q10, h11]
/-- the callee's premise, where it comes back -/
theorem xback {ad : Nat → Nat} {sz : Nat} {v : Option Value} (hM : xMet l K (d - 1) D dA E ad vs S sz (.inl v) S') (hts : ∀ w ∈ xWS, w.before args s = true) (hk : xMok K) (hnh : K.2.2.2.2.2.2 = []) (hd : 0 < d) (hfr : d ≤ R.frames) (hlo : d * 35 ≤ R.locals) :
    Back l R p e below s args K.2.1 3 8 (PreOf R S.2.2.2.2.1 S.2.2.2.2.2 (xPc D dA E ad vs S sz)) (PostOf (fun _ st o t => xQc D dA E ad S sz (.inl v) S' st o t) (S.2.2.2.2.1 - S'.2.2.2.2.1) (S.2.2.2.2.2 - S'.2.2.2.2.2) (va_A (xW ad dA S) sz)) := by
  obtain ⟨k1, k2, k3, k4, k5, -⟩ := hk
  have hcw : Cond.code K.2.1 K.2.2.1 K.2.2.2.1 K.2.2.2.2.1 ∈ xWS := k2 hnh
  refine Back.of_free (S := headSpec xWS (xroom (d - 1) S)) (P := xPc D dA E ad vs S sz) (K := fun _ _ _ _ _ => True) (Q := fun _ st o t => xQc D dA E ad S sz (.inl v) S' st o t ∧ xQf (va_A (xW ad dA S) sz) (S.2.2.2.2.1 - S'.2.2.2.2.1) (S.2.2.2.2.2 - S'.2.2.2.2.2) st t) (bytes := K.2.2.1) (maxL := K.2.2.2.1) (ret := K.2.2.2.2.1)
    (E := fun a st o t L k n => k = S.2.2.2.2.1 - S'.2.2.2.2.1 ∧ n = S.2.2.2.2.2 - S'.2.2.2.2.2 ∧ ∀ q ∈ L, va_A (xW ad dA S) sz q.base) hM ?_ ?_ ?_ ?_ (fun _ _ _ _ _ _ _ _ _ => trivial) ?_ ?_
  · show d - 1 + 1 ≤ R.frames
    omega
  · show 8 + (K.2.2.2.1 + 11) + (d - 1) * 35 ≤ R.locals
    omega
  · intro m meth c B a X hp
    exact ⟨atoms_intro fun w hw => xws_at hts w hw _ _ X.warmed, xws_at hts _ hcw _ _ X.warmed, xws_at hts _ k1 _ _ X.warmed, hp.1, hp.2.1⟩
  · intro m meth c B a g mk X hp
    exact xPc_blind D dA E ad vs S sz _ _ _ _ hp.2.2
  · intro a st o t ⟨hq, hW, L, hF, hL⟩
    refine ⟨L, _, _, ⟨?_, hW, hF⟩, rfl, rfl, hL⟩
    obtain ⟨ad', q1, -⟩ := hq
    exact ⟨_, q1⟩
  · intro m meth c B a g mk v' t L k n X hp hq hF ⟨e1, e2, hL⟩
    subst e1; subst e2
    exact ⟨g, mk, t, L, rfl, rfl, hq.1, rfl, hL, rfl, rfl⟩
/-- going on behind a call that came back -/
theorem xafter {ad : Nat → Nat} {H : Heap} {locs : List Loc} {cells slots : Nat} {lsC : Array Slot} {v : Option Value} {T : State} {a : Array Value} {st0 : List Value} {vm₁ : Vm} {B : Pt} {v' : Option Value}
    (hA : ∀ q, s.heap.size ≤ q → A q) (hR : xRel D dA A s R n0 ad0 E ad S H locs cells slots) (hL : xlv ad lsC M.2.2.2.1 ls) (hT : T.heap = H) (o1 : xokl S.1.length ls = true) (o2 : ∀ w ∈ rest, xokv S.1.length w = true)
    (hc : S'.2.2.2.2.1 ≤ S.2.2.2.2.1) (hz : S'.2.2.2.2.2 ≤ S.2.2.2.2.2)
    (k : xGood M p l e R s m args below meth c D dA A n0 ad0 E Q (pc + 3, ls, v.toList ++ rest, S'))
    (X' : Stand p l e R s m args below meth c B.U B.locs B.cells B.slots) (hpost : PostOf (fun _ st o t => xQc D dA E ad S H.size (.inl v) S' st o t) (S.2.2.2.2.1 - S'.2.2.2.2.1) (S.2.2.2.2.2 - S'.2.2.2.2.2) (va_A (xW ad dA S) H.size) ⟨T.setVm vm₁, locs, cells, slots⟩ a v' B)
    (stp : ∀ target, Steps p.tables e below (B.U.setTop { F0 m pc lsC st0 with pc := pc + 3, stack := v'.toList ++ rest.map (xv ad) }) target → Steps p.tables e below (T.setTop (F0 m pc lsC st0)) target) :
    ∃ t, Steps p.tables e below (T.setTop (F0 m pc lsC st0)) t ∧ Q t := by
  obtain ⟨g', mk, t, L, e1, e2, hq, h1, hLL, h2, h3⟩ := hpost
  obtain ⟨U', l2, c2, s2⟩ := B
  dsimp only [Pt.U, Pt.locs, Pt.cells, Pt.slots] at X' e1 e2 h1 h2 h3 stp hq
  subst h1; subst h2; subst h3
  obtain ⟨ad', q1, hR', hag⟩ := hR.back hA (st0 := (T.setVm vm₁).calling g' mk a) hT hc hz hq hLL
  rw [← e1] at hR'
  have hv : v' = v.map (xv ad') := by
    have q2 : Outcome.returned v' = .returned (v.map (xv ad')) := q1
    cases q2
    rfl
  have w := k ad' U'.heap (locs ++ L) _ _ lsC hR' (hL.ag hag o1) U' rfl X'
  dsimp only at w
  have e3 : (v.toList ++ rest).map (xv ad') = v'.toList ++ rest.map (xv ad) := by
    rw [List.map_append, xoks_map hag o2, hv]
    cases v <;> rfl
  rw [e3] at w
  obtain ⟨t2, a1, b1⟩ := w
  exact ⟨t2, stp t2 a1, b1⟩
theorem xand5 {a b c d e : Bool} {α : Type} {f : α} {o : α} (h : (bif a && b && c && d && e then some f else none) = some o) : a = true ∧ b = true ∧ c = true ∧ d = true ∧ e = true ∧ f = o := by
  cases a <;> cases b <;> cases c <;> cases d <;> cases e <;> first | exact ⟨rfl, rfl, rfl, rfl, rfl, Option.some.inj h⟩ | cases h
theorem xcall_inv {dat n mi : Nat} (h : xcall d dat n ls st = some (.inr (.inl (mi, vs, rest)))) : 0 < d ∧ xcat rest ≤ 8 ∧ xokl n ls = true ∧ (∀ w ∈ st, xokv n w = true) ∧ mi = dat / 16 % 1000 ∧ vs.length = dat % 16 ∧ st = vs.reverse ++ rest := by
  unfold xcall at h
  obtain ⟨h1, h2, h3, h4, h5, h6⟩ := xand5 h
  cases h6
  have h3 : dat % 16 ≤ st.length := Nat.le_of_ble_eq_true h3
  exact ⟨Nat.blt_eq.mp h1, Nat.le_of_ble_eq_true h2, h4, xoks_mem h5, rfl, by simp; omega, by rw [List.reverse_reverse, List.take_append_drop]⟩
theorem xstk {ad : Nat → Nat} (h : st = vs.reverse ++ rest) : st.map (xv ad) = (vs.map (xv ad)).reverse ++ rest.map (xv ad) := by rw [h, List.map_append, List.map_reverse]
set_option maxHeartbeats 4000000 in
set_option maxRecDepth 100000 in
/-- a static call that comes back -/
theorem xcall_S {ix len dat mi : Nat} {v : Option Value} (X : xCtx M d p l R s m args meth c D dA A E) (hok : xOK M pc (.invokestatic ix, len, dat)) (h : xstep d (.invokestatic ix, len, dat) pc ls st S = some (.inr (.inl (mi, vs, rest))))
    (hk : xMok (xP mi)) (hnh : (xP mi).2.2.2.2.2.2 = []) (hM : ∀ ad sz, xMet l (xP mi) (d - 1) D dA E ad vs S sz (.inl v) S') (hc : S'.2.2.2.2.1 ≤ S.2.2.2.2.1) (hz : S'.2.2.2.2.2 ≤ S.2.2.2.2.2)
    (k : xGood M p l e R s m args below meth c D dA A n0 ad0 E Q (pc + 3, ls, v.toList ++ rest, S')) : xGood M p l e R s m args below meth c D dA A n0 ad0 E Q (pc, ls, st, S) := by
  have X0 := X
  obtain ⟨hx, hb, hml, hown, hts, hK, hA, hini, hfr, hlo, -⟩ := X
  obtain ⟨hd, hw⟩ := hok
  intro ad H locs cells slots lsC hR0 hL0 T hT Xs
  have hR : xRel D dA A s R n0 ad0 E ad S H locs cells slots := hR0
  have hL : xlv ad lsC M.2.2.2.1 ls := hL0
  dsimp only [xstep] at h
  cases hq : Nat.beq dat 14421 with
  | true =>
    rw [hq] at h
    exfalso
    dsimp only [cond, xcopy] at h
    split at h
    · obtain ⟨_, _, h⟩ := xarr_inv h
      obtain ⟨_, _, h⟩ := xarr_inv h
      obtain ⟨_, h⟩ := xif_inv h
      cases h
    · cases h
  | false =>
  rw [hq] at h
  have hdat : ¬ dat = 14421 := fun z => by rw [z] at hq; cases hq
  dsimp only at hw
  rw [if_neg hdat] at hw
  obtain ⟨h1, h2, o1, o2, rfl, hvl, hst⟩ := xcall_inv h
  obtain ⟨w1, w2, w3⟩ := hw
  obtain ⟨hk1, hk2, hk3, hk4, hk5, hk6⟩ := id hk
  have hdv : 0 < d := h1
  obtain ⟨v', vm₁, B, hW1, X', hpost, stp⟩ := callS Xs hx hown (hts _ w1) (hts _ w2) (hts _ hk1) (hts _ (hk2 hnh)) hk5 (xback (hM ad H.size) hts hk hnh hdv hfr hlo) (g := F0 m pc lsC (st.map (xv ad))) rfl (hL.1.trans hml.symm) (argsL := vs.map (xv ad)) (rest := rest.map (xv ad))
    (fun sig hsig => by rw [hsig] at w3; rw [List.length_map, hvl]; exact (Option.some.inj w3).symm) (xstk hst) (lv_room (by rw [xcat_sum]; exact h2)) (by rw [hb]; exact hd)
    (fun vm₁ hW₁ => ⟨by obtain ⟨-, -, -, e4, -⟩ := hR; exact Nat.le_of_eq e4, by obtain ⟨-, -, -, -, e5, -⟩ := hR; exact Nat.le_of_eq e5, xPc_at X0 hR vs (T.setVm vm₁) hT hW₁⟩)
  exact xafter hA hR hL hT o1 (fun w hw => o2 w (by rw [hst]; exact List.mem_append_right _ hw)) hc hz k X' hpost stp
set_option maxHeartbeats 4000000 in
set_option maxRecDepth 100000 in
/-- a call of an object's method that comes back -/
theorem xcall_V {ix len dat mi : Nat} {v : Option Value} (X : xCtx M d p l R s m args meth c D dA A E) (hok : xOK M pc (.invokevirtual ix, len, dat)) (h : xstep d (.invokevirtual ix, len, dat) pc ls st S = some (.inr (.inl (mi, vs, rest))))
    (hk : xMok (xP mi)) (hM : ∀ ad sz, xMet l (xP mi) (d - 1) D dA E ad vs S sz (.inl v) S') (hc : S'.2.2.2.2.1 ≤ S.2.2.2.2.1) (hz : S'.2.2.2.2.2 ≤ S.2.2.2.2.2)
    (k : xGood M p l e R s m args below meth c D dA A n0 ad0 E Q (pc + 3, ls, v.toList ++ rest, S')) : xGood M p l e R s m args below meth c D dA A n0 ad0 E Q (pc, ls, st, S) := by
  have X0 := X
  obtain ⟨hx, hb, hml, hown, hts, hK, hA, hini, hfr, hlo, -⟩ := X
  obtain ⟨hd, hw⟩ := hok
  intro ad H locs cells slots lsC hR0 hL0 T hT Xs
  have hR : xRel D dA A s R n0 ad0 E ad S H locs cells slots := hR0
  have hL : xlv ad lsC M.2.2.2.1 ls := hL0
  dsimp only [xstep] at h
  split at h
  · rename_i kc hkc
    obtain ⟨ks, hg, h⟩ := xobj_inv h
    obtain ⟨h1, h2, o1, o2, rfl, hvl, hst⟩ := xcall_inv h
    obtain ⟨w1, w2, ⟨C, TT, N, hcl, w4⟩, w3, hnh⟩ := hw
    dsimp only at w1 w2 w3 w4 hcl
    obtain ⟨hk1, hk2, hk3, hk4, hk5, hk6⟩ := id hk
    have hpos : 0 < dat % 16 := by
      cases hp : parseMethodDescriptor (xP (dat / 16 % 1000)).2.1.desc with
      | none => rw [hp] at w3; cases w3
      | some sig => rw [hp] at w3; have := Option.some.inj w3; dsimp only at this; omega
    obtain ⟨a0, vs', rfl⟩ : ∃ a0 vs', vs = a0 :: vs' := by
      cases vs with
      | nil => simp at hvl; omega
      | cons a0 vs' => exact ⟨a0, vs', rfl⟩
    have ha0 : a0 = .ref kc := by
      rw [hst] at hkc
      have hl : dat % 16 - 1 = vs'.length := by rw [List.length_cons] at hvl; omega
      rw [hl, List.getElem?_append_left (by simp)] at hkc
      simpa using hkc
    subst ha0
    obtain ⟨cellB, c1, c2, c3⟩ := va_recv hK hR.1 hcl (xW_at hg)
    obtain ⟨v', vm₁, B, hW1, X', hpost, stp⟩ := callV Xs hx (C := C) hown (hts _ w1) (hts _ w2) (hts _ w4) (hts _ (hk2 hnh)) hk5 (xback (hM ad H.size) hts hk hnh h1 hfr hlo) (b := ad kc) (by rw [hT]; exact c1) c2 c3 (g := F0 m pc lsC (st.map (xv ad))) rfl (hL.1.trans hml.symm) (argsL := vs'.map (xv ad)) (rest := rest.map (xv ad))
      (fun sig hsig => by rw [hsig] at w3; have := Option.some.inj w3; dsimp only at this; rw [List.length_map]; rw [List.length_cons] at hvl; omega) (by rw [show (F0 m pc lsC (st.map (xv ad))).stack = st.map (xv ad) from rfl, xstk hst]; simp [xv]) (lv_room (by rw [xcat_sum]; exact h2)) (by rw [hb]; exact hd)
      (fun vm₁ hW₁ => ⟨by obtain ⟨-, -, -, e4, -⟩ := hR; exact Nat.le_of_eq e4, by obtain ⟨-, -, -, -, e5, -⟩ := hR; exact Nat.le_of_eq e5, xPc_at X0 hR (.ref kc :: vs') (T.setVm vm₁) hT hW₁⟩)
    exact xafter hA hR hL hT o1 (fun w hw => o2 w (by rw [hst]; exact List.mem_append_right _ hw)) hc hz k X' hpost stp
  · cases h
set_option maxHeartbeats 4000000 in
set_option maxRecDepth 100000 in
/-- a constructor's call -/
theorem xcall_I {ix len dat mi : Nat} {v : Option Value} (X : xCtx M d p l R s m args meth c D dA A E) (hok : xOK M pc (.invokespecial ix, len, dat)) (h : xstep d (.invokespecial ix, len, dat) pc ls st S = some (.inr (.inl (mi, vs, rest))))
    (hnest : ∀ w ∈ xWN, w.before args s = true) (hk : xMok (xP mi)) (hM : ∀ ad sz, xMet l (xP mi) (d - 1) D dA E ad vs S sz (.inl v) S') (hc : S'.2.2.2.2.1 ≤ S.2.2.2.2.1) (hz : S'.2.2.2.2.2 ≤ S.2.2.2.2.2)
    (k : xGood M p l e R s m args below meth c D dA A n0 ad0 E Q (pc + 3, ls, v.toList ++ rest, S')) : xGood M p l e R s m args below meth c D dA A n0 ad0 E Q (pc, ls, st, S) := by
  have X0 := X
  obtain ⟨hx, hb, hml, hown, hts, hK, hA, hini, hfr, hlo, -⟩ := X
  obtain ⟨hd, hw⟩ := hok
  intro ad H locs cells slots lsC hR0 hL0 T hT Xs
  have hR : xRel D dA A s R n0 ad0 E ad S H locs cells slots := hR0
  have hL : xlv ad lsC M.2.2.2.1 ls := hL0
  dsimp only [xstep] at h
  cases hq : Nat.beq dat 14401 with
  | true =>
    rw [hq] at h
    exfalso
    dsimp only [cond] at h
    obtain ⟨_, _, _, h⟩ := xr1_inv h
    revert h
    cases (Nat.blt 0 d && Nat.ble (xcat _) 8) <;> intro h <;> cases h
  | false =>
  rw [hq] at h
  have hdat : ¬ dat = 14401 := fun z => by rw [z] at hq; cases hq
  dsimp only at hw
  rw [if_neg hdat] at hw
  dsimp only [cond] at h
  split at h
  case h_2 => cases h
  rename_i kc hkc
  obtain ⟨h1, h2, o1, o2, rfl, hvl, hst⟩ := xcall_inv h
  obtain ⟨w0, w1, w2, w5, w3, hnh⟩ := hw
  obtain ⟨hk1, hk2, hk3, hk4, hk5, hk6⟩ := id hk
  have hpos : 0 < dat % 16 := by
    cases hp : parseMethodDescriptor (xP (dat / 16 % 1000)).2.1.desc with
    | none => rw [hp] at w3; cases w3
    | some sig => rw [hp] at w3; have := Option.some.inj w3; dsimp only at this; omega
  obtain ⟨a0, vs', rfl⟩ : ∃ a0 vs', vs = a0 :: vs' := by
    cases vs with
    | nil => simp at hvl; omega
    | cons a0 vs' => exact ⟨a0, vs', rfl⟩
  have hcode := hts _ (hk2 hnh)
  rw [w5] at hcode
  have ha0 : a0 = .ref kc := by
    rw [hst] at hkc
    have hl : dat % 16 - 1 = vs'.length := by rw [List.length_cons] at hvl; omega
    rw [hl, List.getElem?_append_left (by simp)] at hkc
    simpa using hkc
  subst ha0
  · have hlen : ∀ sig, parseMethodDescriptor (xP (dat / 16 % 1000)).2.1.desc = some sig → (vs'.map (xv ad)).length = sig.parameters.length := fun sig hsig => by
      rw [hsig] at w3
      have := Option.some.inj w3
      dsimp only at this
      rw [List.length_map]
      rw [List.length_cons] at hvl
      omega
    have hstk : (F0 m pc lsC (st.map (xv ad))).stack = (vs'.map (xv ad)).reverse ++ .ref (ad kc) :: rest.map (xv ad) := by
      rw [show (F0 m pc lsC (st.map (xv ad))).stack = st.map (xv ad) from rfl, xstk hst]
      simp [xv]
    rcases w1 with w1 | w1
    · obtain ⟨v', vm₁, B, hW1, X', hpost, stp⟩ := callI Xs hx hown w0 (hts _ w1) (hts _ w2) hcode hk5 (xback (hM ad H.size) hts hk hnh h1 hfr hlo) (a := ad kc) (g := F0 m pc lsC (st.map (xv ad))) rfl (hL.1.trans hml.symm) (argsL := vs'.map (xv ad)) (rest := rest.map (xv ad))
        hlen hstk (lv_room (by rw [xcat_sum]; exact h2)) (by rw [hb]; exact hd)
        (fun vm₁ hW₁ => ⟨by obtain ⟨-, -, -, e4, -⟩ := hR; exact Nat.le_of_eq e4, by obtain ⟨-, -, -, -, e5, -⟩ := hR; exact Nat.le_of_eq e5, xPc_at X0 hR (.ref kc :: vs') (T.setVm vm₁) hT hW₁⟩)
      exact xafter hA hR hL hT o1 (fun w hw => o2 w (by rw [hst]; exact List.mem_append_right _ hw)) hc hz k X' hpost stp
    · obtain ⟨v', vm₁, B, hW1, X', hpost, stp⟩ := va_callIN Xs hx hown w0 (hnest _ w1) (hts _ w2) hcode hk5 (xback (hM ad H.size) hts hk hnh h1 hfr hlo) (a := ad kc) (g := F0 m pc lsC (st.map (xv ad))) rfl (hL.1.trans hml.symm) (argsL := vs'.map (xv ad)) (rest := rest.map (xv ad))
        hlen hstk (lv_room (by rw [xcat_sum]; exact h2)) (by rw [hb]; exact hd)
        (fun vm₁ hW₁ => ⟨by obtain ⟨-, -, -, e4, -⟩ := hR; exact Nat.le_of_eq e4, by obtain ⟨-, -, -, -, e5, -⟩ := hR; exact Nat.le_of_eq e5, xPc_at X0 hR (.ref kc :: vs') (T.setVm vm₁) hT hW₁⟩)
      exact xafter hA hR hL hT o1 (fun w hw => o2 w (by rw [hst]; exact List.mem_append_right _ hw)) hc hz k X' hpost stp
/-- the end of a method's run -/
def xQt (below : List Frame) (D : va_G) (dA : Nat → ClassId) (E : xP0) (ad : Nat → Nat) (S0 : xS) (out : xO) (S' : xS) (s : State) : State → Prop := fun t =>
  ∃ o, t.status = .running ∧ Ended t below o ∧ xQc D dA E ad S0 s.heap.size out S' s o t ∧ xQf (va_A (xW ad dA S0) s.heap.size) (S0.2.2.2.2.1 - S'.2.2.2.2.1) (S0.2.2.2.2.2 - S'.2.2.2.2.2) s t
theorem xQt_of {S0 : xS} {out : xO} {ad : Nat → Nat} {cells slots : Nat} (hc : cells + S'.2.2.2.2.1 = S0.2.2.2.2.1) (hz : slots + S'.2.2.2.2.2 = S0.2.2.2.2.2) (t : State)
    (h : MQ below (fun _ st o t => xQc D dA E ad S0 s.heap.size out S' st o t) args s cells slots (va_A (xW ad dA S0) s.heap.size) t) : xQt below D dA E ad S0 out S' s t := by
  obtain ⟨o, r1, r2, r3, L, ⟨-, r4, r5⟩, r6⟩ := h
  refine ⟨o, r1, r2, r3, r4, L, ?_, r6⟩
  rw [show S0.2.2.2.2.1 - S'.2.2.2.2.1 = cells by omega, show S0.2.2.2.2.2 - S'.2.2.2.2.2 = slots by omega]
  exact r5
set_option maxHeartbeats 4000000 in
set_option maxRecDepth 100000 in
theorem xfin {ins : Instr} {len dat : Nat} {S0 : xS} {v : Option Value} (X : xCtx M d p l (xroom d S0) s m args meth c D dA (va_A (xW ad0 dA S0) s.heap.size) E) (hr : meth.sig.returnType = M.2.2.2.2.1) (hlocks : meth.locks = false) (hok : xOK M pc (ins, len, dat))
    (h : xstep d (ins, len, dat) pc ls st S = some (.inr (.inr (.inl v, S')))) : xGood M p l e (xroom d S0) s m args below meth c D dA (va_A (xW ad0 dA S0) s.heap.size) S0.1.length ad0 E (xQt below D dA E ad0 S0 (.inl v) S' s) (pc, ls, st, S) := by
  obtain ⟨hx, hb, hml, hown, hts, hK, hA, hini, hfr, hlo, -⟩ := X
  obtain ⟨hd, hw⟩ := hok
  intro ad H locs cells slots lsC hR0 hL0
  obtain ⟨hP, hD, hS, h4, h5, hwG, h7, h8, h9, h10, h11, h12⟩ := hR0
  have post : ∀ (v : Option Value) (t : State), t.heap = H → s.WarmedH t.vm → xQc D dA E ad0 S0 s.heap.size (.inl v) S s (.returned (v.map (xv ad))) t := fun v t ht _ =>
    ⟨ad, rfl, by rw [ht]; exact hP, hD, hS.F ht, hwG, h7, h8, h9, h10, h11, h12⟩
  cases ins with
  | ireturn =>
    dsimp only [xstep] at h
    split at h
    · rename_i x
      by_cases hdz : dat = 0
      · subst hdz
        cases h
        dsimp only at hw
        rw [if_pos rfl] at hw
        exact W.mono (fun t => xQt_of h4 h5 t) (W.zret (Qc := fun _ st o t => xQc D dA E ad0 S0 s.heap.size (.inl (some (.int x))) S st o t) hx hb (hr.trans hw) rfl (post (some (.int x))) hS.2.2 hd hlocks)
      · have hbz : Nat.beq dat 0 = false := by
          cases hq : Nat.beq dat 0 with
          | true => exact absurd (Nat.eq_of_beq_eq_true hq) hdz
          | false => rfl
        rw [hbz] at h
        dsimp only [cond] at h
        split at h
        · rename_i h01
          cases h
          dsimp only at hw
          rw [if_neg hdz] at hw
          have hn : narrow .boolean (.int x) = .int x := by rcases h01 with rfl | rfl <;> decide
          exact W.mono (fun t => xQt_of h4 h5 t) (W.zret (Qc := fun _ st o t => xQc D dA E ad0 S0 s.heap.size (.inl (some (.int x))) S st o t) hx hb (hr.trans hw) hn (post (some (.int x))) hS.2.2 hd hlocks)
        · cases h
    · cases h
  | lreturn =>
    dsimp only [xstep] at h
    split at h
    · rename_i x
      cases h
      exact W.mono (fun t => xQt_of h4 h5 t) (W.lret (Qc := fun _ st o t => xQc D dA E ad0 S0 s.heap.size (.inl (some (.long x))) S st o t) hx hb (hr.trans hw) (post (some (.long x))) hS.2.2 hd hlocks)
    · cases h
  | return_ =>
    dsimp only [xstep] at h
    split at h
    · cases h
      exact W.mono (fun t => xQt_of h4 h5 t) (W.vret (Qc := fun _ st o t => xQc D dA E ad0 S0 s.heap.size (.inl none) S st o t) hx hb (hr.trans hw) (post none) hS.2.2 hd hlocks)
    · cases h
  | ifCond cnd off =>
    exfalso
    cases cnd <;> (simp only [xstep, xi1] at h; split at h <;> cases h)
  | if_icmp cnd off =>
    exfalso
    cases cnd <;> (simp only [xstep, xi2] at h; split at h <;> cases h)
  | _ =>
    exfalso
    simp only [xstep, xi1, xi2, xj1, xj2, xji, xr1, xir, xiir, xjir, xli, xlj, xlr, xst1, xst2, xarr, xarrB, xobj, xin, xcopy, xcall, Bool.cond_eq_ite] at h
    repeat' split at h
    all_goals cases h
end XK
/-- what the law's start gives -/
def xBase (E : xP0) : Prop := (∀ w ∈ lw_tbl, w.before #[Value.ref E.2.1] E.1 = true) ∧ (Jvm.Cond.and given_1 narrow_1).before #[Value.ref E.2.1] E.1 = true
/-- the end of a method's run, thrown -/
def xThrows : Prop := ∀ (d : Nat) (p : Program) (l : Launch) (e : Env) (s : State) (m : MethodId) (args : Array Value) (below : List Frame) (meth : Method) (c : Code) (D : va_G) (dA : Nat → ClassId) (ad0 : Nat → Nat) (E : xP0) (M : xM) (pc : Nat) (ls : List (Option Value)) (st : List Value) (S S' S0 : xS) (i : xC) (k : Nat),
  l.stackTraces = false → xBase E → xCtx M d p l (xroom d S0) s m args meth c D dA (va_A (xW ad0 dA S0) s.heap.size) E → meth.locks = false → (M.2.2.2.2.2.2 = [] → c.exceptionTable.isEmpty = true) → xMok M → xat M.2.2.2.2.2.1 pc = some i → xstep d i pc ls st S = some (.inr (.inr (.inr k, S'))) →
  xGood M p l e (xroom d S0) s m args below meth c D dA (va_A (xW ad0 dA S0) s.heap.size) S0.1.length ad0 E (xQt below D dA E ad0 S0 (.inr k) S' s) (pc, ls, st, S)
/-- a run from a frame -/
def xInv (n : Nat) : Prop := ∀ (d mi : Nat) (f : xF) (out : xO) (S' : xS), ax xP n d mi f = some (out, S') → ∀ (p : Program) (l : Launch) (e : Env) (R : Room) (s : State) (m : MethodId) (args : Array Value) (below : List Frame) (meth : Method) (c : Code) (D : va_G) (dA : Nat → ClassId) (A : Nat → Prop) (n0 : Nat) (ad0 : Nat → Nat) (E : xP0) (Q : State → Prop),
  l.stackTraces = false → xBase E → xCtx (xP mi) d p l R s m args meth c D dA A E →
  (∀ pc ls st S i, xat (xP mi).2.2.2.2.2.1 pc = some i → xstep d i pc ls st S = some (.inr (.inr (out, S'))) → xGood (xP mi) p l e R s m args below meth c D dA A n0 ad0 E Q (pc, ls, st, S)) →
  xGood (xP mi) p l e R s m args below meth c D dA A n0 ad0 E Q f
theorem xmet {n : Nat} (hI : xInv n) (hT : xThrows) {l : Launch} (hl : l.stackTraces = false) {d mi : Nat} (hok : xMok (xP mi)) {vs : List Value} {S S' : xS} {out : xO} (hax : ax xP n d mi (0, xent (xP mi).2.2.2.1 vs, [], S) = some (out, S')) (hdb : ∀ b, Value.double b ∉ vs) (hsl : (xsl vs).length ≤ (xP mi).2.2.2.1)
    (D : va_G) (dA : Nat → ClassId) (E : xP0) (hB : xBase E) (ad : Nat → Nat) (sz : Nat) : xMet l (xP mi) d D dA E ad vs S sz out S' := by
  obtain ⟨k1, k2, k3, k4, k5, k6, k7, k8, -⟩ := id hok
  refine MetFree.of_bodyS (code := (xP mi).2.2.1) (maxLocals := (xP mi).2.2.2.1) (ret := (xP mi).2.2.2.2.1) k3 ?_ ?_
  · intro args s m h hn
    by_cases hh : (xP mi).2.2.2.2.2.2 = []
    · obtain ⟨meth, c, h1, h2, h3, h4, h5, h6, -, -⟩ := Cond.code_spec hn (atoms_spec (ws := xWS) h _ (k2 hh))
      exact ⟨meth, c, h1, h2, h3, h4, h5, h6⟩
    · obtain ⟨m', meth, c, h0, h1, h2, h3, h4, -, h5, h6, -⟩ := Cond.codeWith_spec (atoms_spec (ws := xWS) h _ (k8 hh))
      cases hn.symm.trans h0
      exact ⟨meth, c, h1, h2, h3, h4, h5, h6⟩
  · intro p e s m args below meth c s₁ B hml hPc _
    obtain ⟨rfl, hsz, hP, hD, hK, hX, hb0, hb1, hold, hwG, hle, hL0, hxs, had, hEw⟩ := hPc
    have hh0 : s₁.heap = s.heap := by rw [B.state]; rfl
    have hts := atoms_spec (ws := xWS) B.pre
    subst hsz
    have hown : s.vm.findClass (xP mi).1 = some m.cls := by rw [k6]; exact findClass_of_methodNamed B.named
    have X : xCtx (xP mi) d p l (xroom d S) s m (vs.map (xv ad)).toArray meth c D dA (va_A (xW ad dA S) s.heap.size) E :=
      ⟨B.exec, B.bytes, hml, hown, hts, hK, fun q hq => Or.inr hq, fun hi => (name_of_methodNamed B.named B.method).1.trans hi, Nat.le_refl _, Nat.le_refl _, k7, hX, hb0, hb1, hold, fun q hq => by
        rcases hq with ⟨k, en, hk⟩ | hq
        · exact hD.2 k _ hk
        · exact Nat.le_trans hb1 hq, hEw, fun hh => by
        obtain ⟨m', meth', c', g0, g1, g2, -, -, g5, -⟩ := Cond.codeWith_spec (hts _ (k8 hh))
        cases B.named.symm.trans g0
        cases B.method.symm.trans g1
        cases (Stand.of_body B).code.symm.trans g2
        exact g5⟩
    have hexc : (xP mi).2.2.2.2.2.2 = [] → c.exceptionTable.isEmpty = true := fun hh => B.noHandlers (hts _ (k2 hh))
    have fin : ∀ pc ls st S2 i, xat (xP mi).2.2.2.2.2.1 pc = some i → xstep d i pc ls st S2 = some (.inr (.inr (out, S'))) → xGood (xP mi) p l e (xroom d S) s m (vs.map (xv ad)).toArray below meth c D dA (va_A (xW ad dA S) s.heap.size) S.1.length ad E (xQt below D dA E ad S out S' s) (pc, ls, st, S2) := by
      intro pc ls st S2 i hi hs
      obtain ⟨ins, len, dat⟩ := i
      cases out with
      | inl v => exact xfin X B.returns B.notSynchronized (k7 pc _ hi) hs
      | inr k => exact hT d p l e s m _ below meth c D dA ad E (xP mi) pc ls st S2 S' S _ k hl hB X B.notSynchronized hexc hok hi hs
    have G := hI d mi _ out S' hax p l e (xroom d S) s m (vs.map (xv ad)).toArray below meth c D dA (va_A (xW ad dA S) s.heap.size) S.1.length ad E (xQt below D dA E ad S out S' s) hl hB X fin
    have hR : xRel D dA (va_A (xW ad dA S) s.heap.size) s (xroom d S) S.1.length ad E ad S s.heap [] 0 0 :=
      ⟨hP, hD.self, va_S.rf, Nat.zero_add _, Nat.zero_add _, hwG, hle, Nat.le_refl _, hL0, hxs, had, fun _ _ => rfl⟩
    have w := G ad s.heap [] 0 0 _ hR (xlv.entry ad vs hdb hsl) s₁ hh0 (Stand.of_body B)
    obtain ⟨t, a1, o, b1, b2, b3⟩ := w
    refine ⟨t, o, ?_, b1, b2, b3⟩
    rw [lg_entry_eq]
    exact a1
end
section
/-! Every run of the small machine is the machine's. -/
section XR
variable {M : xM} {d : Nat} {p : Program} {l : Launch} {e : Env} {R : Room} {s : State} {m : MethodId} {args : Array Value} {below : List Frame} {meth : Method} {c : Code} {D : va_G} {dA : Nat → ClassId} {A : Nat → Prop} {n0 : Nat} {ad0 : Nat → Nat} {E : xP0} {Q : State → Prop}
variable {pc len dat : Nat} {ls : List (Option Value)} {st : List Value} {S : xS} {f' : xF}
set_option maxHeartbeats 4000000 in
set_option maxRecDepth 100000 in
/-- Object's constructor -/
theorem xnext_obj {ix : Nat} (X : xCtx M d p l R s m args meth c D dA A E) (hok : xOK M pc (.invokespecial ix, len, dat)) (h : xstep d (.invokespecial ix, len, dat) pc ls st S = some (.inl f'))
    (k : xGood M p l e R s m args below meth c D dA A n0 ad0 E Q f') : xGood M p l e R s m args below meth c D dA A n0 ad0 E Q (pc, ls, st, S) := by
  obtain ⟨hx, hb, hml, hown, hts, hK, hA, hini, hfr, hlo, -⟩ := X
  obtain ⟨hd, hw⟩ := hok
  intro ad H locs cells slots lsC hR0 hL0
  have hR : xRel D dA A s R n0 ad0 E ad S H locs cells slots := hR0
  have hL : xlv ad lsC M.2.2.2.1 ls := hL0
  dsimp only [xstep] at h
  cases hq : Nat.beq dat 14401 with
  | true =>
    rw [hq] at h
    dsimp only [cond] at h
    obtain ⟨kc, r, rfl, h'⟩ := xr1_inv h
    clear h
    have h := h'
    cases hc : (Nat.blt 0 d && Nat.ble (xcat r) 8) with
    | false => rw [hc] at h; cases h
    | true =>
    rw [hc] at h
    cases h
    rw [Bool.and_eq_true] at hc
    have h1 : 0 < d := Nat.blt_eq.mp hc.1
    have h2 : xcat r ≤ 8 := Nat.le_of_ble_eq_true hc.2
    cases Nat.eq_of_beq_eq_true hq
    dsimp only at hw
    rw [if_pos rfl] at hw
    refine W.objInit hx hb hown (hts _ hw) (hts _ xw_obj1) (hts _ xw_obj2) rfl (by rw [hml]; exact hL.1) (rest := r.map (xv ad)) rfl hd (by omega) ?_ (k ad H locs cells slots lsC hR hL)
    have := lv_room (m := m) (pc := pc) (ls := lsC) (rest := []) (st := r.map (xv ad)) (by rw [xcat_sum]; exact h2)
    show 2 * (F0 m pc lsC []).monitorRoom + _ + 12 ≤ _
    omega
  | false =>
    rw [hq] at h
    exfalso
    dsimp only [cond] at h
    simp only [xcall, Bool.cond_eq_ite] at h
    repeat' split at h
    all_goals cases h
set_option maxHeartbeats 4000000 in
set_option maxRecDepth 100000 in
/-- System.arraycopy -/
theorem xnext_copy {ix : Nat} (X : xCtx M d p l R s m args meth c D dA A E) (hok : xOK M pc (.invokestatic ix, len, dat)) (h : xstep d (.invokestatic ix, len, dat) pc ls st S = some (.inl f'))
    (k : xGood M p l e R s m args below meth c D dA A n0 ad0 E Q f') : xGood M p l e R s m args below meth c D dA A n0 ad0 E Q (pc, ls, st, S) := by
  obtain ⟨hx, hb, hml, hown, hts, hK, hA, hini, hfr, hlo, -⟩ := X
  obtain ⟨hd, hw⟩ := hok
  intro ad H locs cells slots lsC hR0 hL0
  have hR : xRel D dA A s R n0 ad0 E ad S H locs cells slots := hR0
  have hL : xlv ad lsC M.2.2.2.1 ls := hL0
  dsimp only [xstep] at h
  cases hq : Nat.beq dat 14421 with
  | true =>
    rw [hq] at h
    dsimp only [cond, xcopy] at h
    split at h
    · rename_i n dp a sp b r
      obtain ⟨n0', hg0, h⟩ := xarr_inv h
      obtain ⟨n1', hg1, h⟩ := xarr_inv h
      obtain ⟨hc, h⟩ := xif_inv h
      cases h
      cases Nat.eq_of_beq_eq_true hq
      dsimp only at hw
      rw [if_pos rfl] at hw
      obtain ⟨hP, hD, hS, h4, h5, hwG, h7, h8, h9, h10, h11, h12⟩ := id hR
      have c1 : ¬ sp < 0 := fun z => hc (Or.inl z)
      have c2 : ¬ dp < 0 := fun z => hc (Or.inr (Or.inl z))
      have c3 : ¬ n < 0 := fun z => hc (Or.inr (Or.inr (Or.inl z)))
      have c4 : sp.toNatClampNeg + n.toNatClampNeg ≤ n0' := Nat.le_of_not_lt fun z => hc (Or.inr (Or.inr (Or.inr (Or.inl z))))
      have c5 : dp.toNatClampNeg + n.toNatClampNeg ≤ n1' := Nat.le_of_not_lt fun z => hc (Or.inr (Or.inr (Or.inr (Or.inr (Or.inl z)))))
      have c6 : 3 ≤ d := Nat.le_of_not_lt fun z => hc (Or.inr (Or.inr (Or.inr (Or.inr (Or.inr (Or.inl z))))))
      have c7 : xcat r ≤ 8 := Nat.le_of_not_lt fun z => hc (Or.inr (Or.inr (Or.inr (Or.inr (Or.inr (Or.inr z))))))
      have c8 : nativeFrameWords "java/lang/System" "arraycopy" 5 ≤ 80 := by decide +kernel
      refine va_copyi (rest := r.map (xv ad)) hx hb (by rw [hml]; exact hL.1.symm) hown (hts _ hw) (hts _ xw_cp1) (hts _ xw_cp2) (hts _ xw_cp3) hK hP hD hS b a 0 0 (xW_ints (by decide) hg0) (xW_ints (by decide) hg1) rfl rfl rfl c1 c2 c3 c4 c5 (fun _ _ => rfl) (by omega) ?_ hd
        (fun H1 locs1 hP1 hD1 hS1 => k ad H1 locs1 cells slots lsC (hR.arr (by decide) hg1 xset_self (fun j hj => xset_ne hj) hP1 hD1 hS1) hL)
      rw [xcat_sum]
      omega
    · cases h
  | false =>
    rw [hq] at h
    exfalso
    dsimp only [cond] at h
    simp only [xcall, Bool.cond_eq_ite] at h
    repeat' split at h
    all_goals cases h
set_option maxHeartbeats 4000000 in
set_option maxRecDepth 100000 in
theorem xnext {i : xC} (X : xCtx M d p l R s m args meth c D dA A E) (hok : xOK M pc i) (h : xstep d i pc ls st S = some (.inl f'))
    (k : xGood M p l e R s m args below meth c D dA A n0 ad0 E Q f') : xGood M p l e R s m args below meth c D dA A n0 ad0 E Q (pc, ls, st, S) := by
  obtain ⟨ins, len, dat⟩ := i
  cases ins with
  | getfield j => exact xnext_get X hok h k
  | putfield j => exact xnext_put X hok h k
  | iaload => exact xnext_arr X hok h rfl k
  | iastore => exact xnext_arr X hok h rfl k
  | baload => exact xnext_arr X hok h rfl k
  | bastore => exact xnext_arr X hok h rfl k
  | laload => exact xnext_arr X hok h rfl k
  | lastore => exact xnext_arr X hok h rfl k
  | arraylength => exact xnext_arr X hok h rfl k
  | newarray t => exact xnext_newa X hok h k
  | new j => exact xnext_new X hok h k
  | invokestatic j => exact xnext_copy X hok h k
  | invokespecial j => exact xnext_obj X hok h k
  | invokevirtual j =>
    exfalso
    simp only [xstep, xobj, xcall, Bool.cond_eq_ite] at h
    repeat' split at h
    all_goals cases h
  | _ => exact xnext_1 X hok h rfl k
end XR
end
section
/-! A throw out of a method. -/
theorem xfound_vm {u U : State} (hv : U.vm = u.vm) (C n d : String) : U.fieldFound? C n d = u.fieldFound? C n d := by
  unfold State.fieldFound?
  rw [hv]
theorem xlays_keep {u U : State} {A A' : Array Value} (hv : U.vm = u.vm) (hh : ∀ (q : Nat) (cell : Cell), u.heap[q]? = some cell → U.heap[q]? = some cell) {C n d : String} (h : (Cond.laysStatic C n d).before A u = true) : (Cond.laysStatic C n d).before A' U = true := by
  obtain ⟨c, k, i, f, a, cell, hc, hi, hst, ha, hcell, hs, hcls, hlt, hty⟩ := Cond.laysStatic_spec h
  exact Cond.laysStatic_of (by rw [hv]; exact hc) (by rw [xfound_vm hv]; exact hi) hst ha (hh _ _ hcell) hs hcls hlt hty
theorem xeval_keep {u U : State} {A A' : Array Value} (hv : U.vm = u.vm) (hh : ∀ (q : Nat) (cell : Cell), u.heap[q]? = some cell → U.heap[q]? = some cell) {C n d : String} {w : Value} (h : (Term.static C n d).eval A u none [] u = some w) : (Term.static C n d).eval A' U none [] U = some w := by
  simp only [Term.eval, State.fieldNamed?, xfound_vm hv] at h ⊢
  cases hf : u.fieldFound? C n d with
  | none => simp [hf] at h
  | some x =>
    obtain ⟨c, k, i, f⟩ := x
    simp only [hf, Option.bind_eq_bind, Option.bind_some] at h ⊢
    cases hs : f.isStatic with
    | false => simp [hs] at h
    | true =>
      cases ha : k.statics with
      | none => simp [hs, ha] at h
      | some a =>
        cases hc : u.heap[a]? with
        | none => simp [hs, ha, hc] at h
        | some cell =>
          simp [hs, ha, hc] at h
          simp [hs, ha, hh _ _ hc]
          exact h
theorem xisr_keep {u U : State} {A A' : Array Value} (hv : U.vm = u.vm) (hh : ∀ (q : Nat) (cell : Cell), u.heap[q]? = some cell → U.heap[q]? = some cell) {C n d : String} (h : (Cond.isRef (.static C n d)).before A u = true) : (Cond.isRef (.static C n d)).before A' U = true := by
  cases hw : (Term.static C n d).eval A u none [] u with
  | none => simp [Cond.before, Cond.holds, Cond.value, hw] at h
  | some w =>
    have h2 := xeval_keep (A' := A') hv hh hw
    simp only [Cond.before, Cond.holds, Cond.value, hw] at h
    simp only [Cond.before, Cond.holds, Cond.value, h2]
    exact h
/-- a word that is the tables', or of a static -/
def xwk : Cond → Bool
  | .laysStatic .. => true
  | .isRef (.static ..) => true
  | w => w.onTables
theorem xwk_own {own X : String} {ic : Nat} : ∀ w ∈ Bundle.ownAtoms own ic X xsup, xwk w = true := by
  have h : (Bundle.ownAtoms own ic X xsup).all xwk = true := by rfl
  exact fun w hw => List.all_eq_true.mp h w hw
theorem xword {E : xP0} (hB : xBase E) {U : State} (hW : E.1.WarmedH U.vm) (hold : ∀ q, q < E.1.heap.size → U.heap[q]? = E.1.heap[q]?) {w : Cond} (A : Array Value) (hw : w ∈ lw_tbl ∨ w = xst1w ∨ w = xst2w) (hf : w.keepsFace = true) (hk : xwk w = true) : w.before A U = true := by
  have h0 : w.before #[Value.ref E.2.1] E.1 = true := by
    rcases hw with hw | rfl | rfl
    · exact hB.1 w hw
    · exact flat_of_before _ hB.2 xst1w (by decide +kernel)
    · exact flat_of_before _ hB.2 xst2w (by decide +kernel)
  have h1 : w.before #[Value.ref E.2.1] (E.1.setVm U.vm) = true := Cond.before_shiftedFace (State.Shifted.of_warmed hW) w hf h0
  have hh : ∀ (q : Nat) (cell : Cell), (E.1.setVm U.vm).heap[q]? = some cell → U.heap[q]? = some cell := fun q cell hq => by
    have hq : E.1.heap[q]? = some cell := hq
    rw [hold q (Array.getElem?_eq_some_iff.mp hq).1]
    exact hq
  unfold xwk at hk
  split at hk
  · exact xlays_keep (u := E.1.setVm U.vm) (U := U) rfl hh h1
  · exact xisr_keep (u := E.1.setVm U.vm) (U := U) rfl hh h1
  · exact va_tabs hk (rfl : (E.1.setVm U.vm).vm = U.vm) h1
section XT
variable {p : Program} {l : Launch} {e : Env} {R : Room} {s : State} {m : MethodId} {args : Array Value} {below : List Frame} {meth : Method} {c : Code} {T : State} {locs : List Loc} {cells slots : Nat}
/-- the method stands as if it had begun just here -/
theorem xrebase (X : Stand p l e R s m args below meth c T locs cells slots) {k1 k2 : Nat} (hc : cells + k1 ≤ R.cells) (hz : slots + k2 ≤ R.slots) :
    Stand p l e { frames := R.frames, cells := k1, slots := k2, locals := R.locals } (T.setFrames (.invoking m args :: below)) m args below meth c T [] 0 0 := by
  obtain ⟨g₀, hfr⟩ := X.frames_eq
  have hcur : T.cur < T.threads.size := State.cur_lt_of_frames hfr
  have hf : (T.setFrames (.invoking m args :: below)).frames = .invoking m args :: below := State.frames_setFrames _ hcur
  have hroom := X.room
  simp only [State.hasRoom, Bool.and_eq_true, decide_eq_true_eq] at hroom
  obtain ⟨⟨⟨⟨r0, r1, r2, r3, r4, r5⟩, r6⟩, r7⟩, r8⟩ := hroom
  have hl1 := State.localsInUse_invoking X.frames X.method X.code
  have hl2 := State.localsInUse_invoking (s := T.setFrames (.invoking m args :: below)) hf (show T.vm.method? m = some meth from X.method') X.code
  have hfl : s.frames.length = (T.setFrames (.invoking m args :: below)).frames.length := by rw [hf, X.frames]
  refine ⟨X.admits, X.cas, X.clock, hf, ?_, ?_, X.method', X.code, X.here, X.tail, State.WarmedH.refl _, (State.stackLimits_setFrames _ _ _).symm, (State.stackBytes_setFrames _ _).symm, ?_⟩
  · simp only [State.hasRoom, Bool.and_eq_true, decide_eq_true_eq]
    refine ⟨⟨⟨⟨?_, ?_, ?_, ?_, ?_, ?_⟩, X.cellsAbove hc⟩, X.slotsAbove hz⟩, X.book⟩
    · rw [hl2]; rw [hl1] at r0; exact r0
    · rw [← hfl]; exact r1
    · rw [← hfl, State.stackLimits_setFrames, X.limits]; exact r2
    · rw [hl2]; rw [hl1] at r3; exact r3
    · rw [hl2, State.stackLimits_setFrames, X.limits]; rw [hl1] at r4; exact r4
    · rw [State.stackBytes_setFrames, X.bytes]; exact r5
  · have h := X.hears
    have hm : ∀ x, (T.setFrames (.invoking m args :: below)).vm.method? x = s.vm.method? x := fun x => by
      show T.vm.method? x = _
      rw [X.warmed.alike.method?]
    cases below with
    | nil =>
      simp only [State.hears, hm] at h ⊢
      exact h
    | cons f r =>
      cases f <;> simp only [State.hears, State.code?_eq, hm] at h ⊢ <;> exact h
  · obtain ⟨t, ht, -⟩ := State.frames_cons hfr
    obtain ⟨t', ht', -⟩ := State.frames_cons hf
    have h := (State.sameButNew.refl (T.setFrames (.invoking m args :: below)) ht').setFrames T.frames (State.cur_lt_of_frames hf)
    rw [State.setFrames_setFrames, State.setFrames_self ht] at h
    exact h
/-- no old cell has moved -/
theorem xsame_old {u U : State} {k n : Nat} (h : u.sameButNew ({ U with vm := u.vm } : State) [] k n) : ∀ q, q < u.heap.size → U.heap[q]? = u.heap[q]? := by
  intro q hq
  have hc := Array.getElem?_eq_getElem hq
  obtain ⟨c', h1, h2, h3, h4⟩ := h.2.2.2.2.2 q _ hc
  rw [show U.heap[q]? = some c' from h1, hc, h2]
  have : c'.slots = u.heap[q].slots := by
    apply Array.ext_getElem?
    intro i
    exact h4 i (by simp)
  rw [this]
set_option maxHeartbeats 4000000 in
/-- from 'new' to the note that an exception flies -/
theorem xthrowW {M : xM} {pc ix dat sx ic q : Nat} {X tx : String} {lsC : Array Slot} {stk : List Value} (hx : p.tables.exec = Jvm.exec) (hb : c.code = M.2.2.1) (hml : lsC.size = c.maxLocals) (hown : s.vm.findClass M.1 = some m.cls) (htr : l.stackTraces = false) (hX : xexN[dat - 100]? = some X)
    (d0 : decode M.2.2.1 pc = .ok (.new ix, 3)) (d3 : decode M.2.2.1 (pc + 3) = .ok (.dup, 1)) (d4 : decode M.2.2.1 (pc + 4) = .ok (.ldc sx, 2)) (d6 : decode M.2.2.1 (pc + 6) = .ok (.invokespecial ic, 3)) (d9 : decode M.2.2.1 (pc + 9) = .ok (.athrow, 1))
    (w1 : (Cond.classLink M.1 ix X).before args s = true) (w2 : (Cond.instantiable X 6).before args s = true) (w3 : (Cond.initialized X).before args s = true) (w4 : vk_R M.1 sx tx q s) (w5 : ∀ w ∈ Bundle.ownAtoms M.1 ic X xsup, w.before args s = true)
    (hexc : c.exceptionTable.isEmpty = true) (hlocks : meth.locks = false) (r1 : 6 ≤ R.frames) (r2 : 130 ≤ R.locals) (r3 : 1 ≤ R.cells) (r4 : 6 ≤ R.slots) (r5 : (stk.map fun v => v.category).sum ≤ 8) :
    W p l e R s m args below meth c s.heap [] 0 0 (fun U => U.status = .running ∧ Ended U below (.threw s.heap.size) ∧ s.WarmedH U.vm ∧ s.sameButNew ({ U with vm := s.vm } : State) [] 1 6 ∧ ∃ ce, U.heap[s.heap.size]? = some ce ∧ ce.vm.isStatics = false ∧ s.vm.findClass X = some ce.cls) (F0 m pc lsC stk) := by
  refine W.newc hx hb hown w1 w2 w3 rfl d0 (by omega) (by omega) (fun cC kC h1 h2 h3 h4 => ?_)
  refine lv_dup (va := .ref s.heap.size) hx hb d3 rfl ?_
  refine va_ldcS hx hb hown w4 d4 ?_
  intro T hT XT
  have hfit : Bundle.fit X = true := by
    have : ∀ x ∈ xexN, Bundle.fit x = true := by decide +kernel
    exact this X (List.mem_of_getElem? hX)
  have htr2 : e.platform.stackTraces = false := by rw [XT.admits.platform]; exact htr
  have hcell : T.heap[s.heap.size]? = some (freshCell cC kC) := by
    rw [hT]
    simp [freshCell]
  obtain ⟨U, g1, g2, g3, g4, g5, ce, g6, g7⟩ := XT.ctorThrowS hx htr2 (names := xsup) hown hfit (by decide +kernel) w5 (fun x hx => by cases hx) h1 h2 hcell (Nat.le_refl _) (msg := .ref q) rfl (g := F0 m (pc + 6) lsC (.ref q :: .ref s.heap.size :: .ref s.heap.size :: stk)) rfl hml rfl rfl (rest := stk) rfl (by rw [hb]; exact d6) (by rw [hb]; exact d9) (covers_of_empty hexc _)
    (by show 2 + 3 < R.frames; omega) (by
      have := lv_room (m := m) (pc := pc + 6) (ls := lsC) (rest := .ref q :: .ref s.heap.size :: .ref s.heap.size :: stk) (st := stk) r5
      simp only [List.map_cons, List.sum_cons]
      rw [show (Value.ref s.heap.size).category = 1 from rfl]
      show _ + (13 * (2 + 1) + 42) ≤ R.locals
      omega) hlocks
  exact ⟨U, g1, g2, g3, g4, g5, ce, g6, by rw [g7.vm]; rfl, g7.cls⟩
end XT
theorem xstr_at {E : xP0} (hB : xBase E) {U : State} (hW : E.1.WarmedH U.vm) {own tx : String} {sx : Nat} (h : Cond.stringRef own sx tx ∈ lw_tbl) : ∃ q, vk_R own sx tx q U := by
  have h0 := hB.1 _ h
  obtain ⟨cur, hcur⟩ : ∃ cur, E.1.vm.findClass own = some cur := by
    cases hc : E.1.vm.findClass own with
    | none => simp [Cond.before, Cond.holds, Cond.value, hc] at h0
    | some cur => exact ⟨cur, rfl⟩
  obtain ⟨_, _, _, q, -, -, -, -, -, hq⟩ := Cond.stringRef_spec hcur h0
  exact ⟨q, vk_R.warm hW (vk_R.of h0 hq)⟩
set_option maxHeartbeats 4000000 in
set_option maxRecDepth 100000 in
theorem xthrows : xThrows := by
  intro d p l e s m args below meth c D dA ad0 E M pc ls st S S' S0 i k hl hB X hlocks hexc hMok hi hs
  obtain ⟨hx, hb, hml, hown, hts, hK, hA, hini, hfr, hlo, hok, x1, x2, x3, x4, x5, x6, -⟩ := X
  obtain ⟨hd, hw⟩ := hok pc i hi
  obtain ⟨ins, mk, dat⟩ := i
  cases ins with
  | new ix =>
    dsimp only [xstep] at hs
    cases hq : Nat.blt dat 100 with
    | true =>
      rw [hq] at hs
      exfalso
      simp only [cond, Bool.cond_eq_ite] at hs
      repeat' split at hs
      all_goals cases hs
    | false =>
    rw [hq] at hs
    dsimp only [cond] at hs
    obtain ⟨hg, hs⟩ := xif_inv hs
    cases hs
    have hge : 100 ≤ dat := by
      by_cases hlt : dat < 100
      · rw [Nat.blt_eq.mpr hlt] at hq; cases hq
      · omega
    obtain ⟨XN, sx, tx, ic, e1, d3, d4, d6, d9, w1, w2, w3, w4, w5, w6⟩ := hw.1 hge
    dsimp only at e1 w1
    intro ad H locs cells slots lsC hR0 hL0 T hT XT
    have hR : xRel D dA (va_A (xW ad0 dA S0) s.heap.size) s (xroom d S0) S0.1.length ad0 E ad S H locs cells slots := hR0
    have hL : xlv ad lsC M.2.2.2.1 ls := hL0
    obtain ⟨hP, hD, hS, h4, h5, hwG, h7, h8, h9, h10, h11, h12⟩ := id hR
    have c1 : S.2.2.2.2.1 ≠ 0 := fun z => hg (Or.inl z)
    have c2 : 6 ≤ S.2.2.2.2.2 := Nat.le_of_not_lt fun z => hg (Or.inr (Or.inl z))
    have c3 : 6 ≤ d := Nat.le_of_not_lt fun z => hg (Or.inr (Or.inr (Or.inl z)))
    have c4 : xcat st ≤ 8 := Nat.le_of_not_lt fun z => hg (Or.inr (Or.inr (Or.inr z)))
    have XR := xrebase XT (k1 := 1) (k2 := 6) (by omega) (by omega)
    have hEW : E.1.WarmedH T.vm := State.WarmedH.trans x6 XT.warmed
    have hold : ∀ q, q < E.1.heap.size → T.heap[q]? = E.1.heap[q]? := fun q hq => by
      rw [hT]
      exact (hS.2.1 q (by omega) (fun z => by have := x5 q z; omega)).trans (x4 q hq)
    obtain ⟨sq, hsq⟩ := xstr_at (U := T.setFrames (.invoking m args :: below)) hB hEW w4
    have hts' : ∀ w ∈ xWS, w.before args (T.setFrames (.invoking m args :: below)) = true := fun w hw => xws_at hts w hw _ _ XT.warmed
    have hown' : (T.setFrames (.invoking m args :: below)).vm.findClass M.1 = some m.cls := by
      show T.vm.findClass M.1 = _
      rw [XT.warmed.alike.findClass]
      exact hown
    obtain ⟨U, g1, g2, g3, g4, g5, ce, g6, g7, g8⟩ := xthrowW (R := { frames := (xroom d S0).frames, cells := 1, slots := 6, locals := (xroom d S0).locals }) (s := T.setFrames (.invoking m args :: below)) (stk := st.map (xv ad)) hx hb (hL.1.trans hml.symm) hown' hl e1 hd d3 d4 d6 d9 (hts' _ w1) (hts' _ w2) (hts' _ w3) hsq
      (fun w hw => xword hB (U := T.setFrames (.invoking m args :: below)) hEW hold args (w5 w hw) (Bundle.ownAtoms_keepsFace w hw) (xwk_own w hw)) (hexc w6) hlocks (by show 6 ≤ d; omega) (by show 130 ≤ d * 35; omega) (Nat.le_refl _) (Nat.le_refl _) (by rw [xcat_sum]; exact c4) T rfl XR
    have hold2 := xsame_old g5
    have hsz : T.heap.size ≤ U.heap.size := g5.2.1
    have hTB : T.sameButNew ({ U with vm := T.vm } : State) [] 1 6 := by
      have := g5
      unfold State.sameButNew at this ⊢
      rw [State.setFrames_setFrames] at this
      exact this
    refine ⟨U, g1, .threw T.heap.size, g2, g3, ⟨ad, ⟨T.heap.size, ce, XN, rfl, e1, g6, g7, ?_⟩, ?_, hD, ⟨?_, fun q h1 h2 => ?_⟩, hwG, h7, h8, h9, h10, h11, h12⟩, State.WarmedH.trans XT.warmed g4, locs, ?_, hS.2.2⟩
    · rw [g4.alike.findClass]
      exact g8
    · refine hP.kept (fun k q hk => ?_)
      have hlt : q.1 < H.size := (hP k q hk).lt
      rw [← hT] at hlt ⊢
      exact hold2 q.1 hlt
    · have := hS.1
      rw [← hT] at this
      omega
    · have hl2 : q < T.heap.size := by
        have := hS.1
        rw [← hT] at this
        omega
      have e2 := hold2 q hl2
      rw [show (T.setFrames (.invoking m args :: below)).heap[q]? = T.heap[q]? from rfl, hT] at e2
      rw [e2]
      exact hS.2.1 q h1 h2
    · have := XT.same.trans (hTB.setVm s.vm)
      rw [List.append_nil] at this
      have e3 : S0.2.2.2.2.1 - (S.2.2.2.2.1 - 1) = cells + 1 := by
        have : cells + S.2.2.2.2.1 = S0.2.2.2.2.1 := h4
        omega
      have e4 : S0.2.2.2.2.2 - (S.2.2.2.2.2 - 6) = slots + 6 := by
        have : slots + S.2.2.2.2.2 = S0.2.2.2.2.2 := h5
        omega
      dsimp only
      rw [e3, e4]
      exact this
  | ifCond cnd off =>
    exfalso
    cases cnd <;> (simp only [xstep, xi1] at hs; split at hs <;> cases hs)
  | if_icmp cnd off =>
    exfalso
    cases cnd <;> (simp only [xstep, xi2] at hs; split at hs <;> cases hs)
  | _ =>
    exfalso
    simp only [xstep, xi1, xi2, xj1, xj2, xji, xr1, xir, xiir, xjir, xli, xlj, xlr, xst1, xst2, xarr, xarrB, xobj, xin, xcopy, xcall, Bool.cond_eq_ite] at hs
    repeat' split at hs
    all_goals cases hs
end
section
/-! A call whose method throws; the handler. -/
section XH
variable {E' : CtlPost} {e : Env} {d : Bool} {acts : List Action} {s : State} {f : JFrame} {a : Addr} {Q : Handler → Pre}
/-- a handler's class, its entry open or not -/
theorem xfh_link {x : ExceptionTableEntry} {t : List ExceptionTableEntry} {c : ClassId} {cell : Cell} (hx : covers x f.pc = true) (h0 : x.catchType ≠ 0) (hl : s.vm.ClassLinks e.platform f.method.cls x.catchType c) (hcell : s.heap[a]? = some cell) (hobj : ∀ k, cell.vm ≠ .statics k)
    (hk : ∃ k, s.vm.classes[cell.cls]? = some k) (hc : ∃ k, s.vm.classes[c]? = some k) :
    wp (findHandler.go f a (x :: t)) Q E' e d acts s ↔ if s.vm.assignable cell.cls c = true then Q (.found x.handlerPc) d acts (s.setVm (s.vm.noted f.method.cls x.catchType (.cls c))) else wp (findHandler.go f a t) Q E' e d acts (s.setVm (s.vm.noted f.method.cls x.catchType (.cls c))) := by
  simp only [covers] at hx
  obtain ⟨ha, ht⟩ := (resolveClass_links e.toSetting hl).op (op := VmOp.resolveClass f.method.cls x.catchType) rfl
  have hal : s.vm.Alike (s.vm.noted f.method.cls x.catchType (.cls c)) := (Vm.Alike.refl s.vm).noted _ _ _
  obtain ⟨k1, hk1⟩ := hk
  obtain ⟨k2, hk2⟩ := hc
  obtain ⟨k1', hk1', -⟩ := hal.2.2 _ _ hk1
  obtain ⟨k2', hk2', -⟩ := hal.2.2 _ _ hk2
  have hfe : (s.vm.noted f.method.cls x.catchType (.cls c)).assignable cell.cls c = s.vm.assignable cell.cls c := by rw [hal.assignable]
  cases hfit : s.vm.assignable cell.cls c <;>
    simp [findHandler.go, hx, h0, ha, ht, hcell, hobj, hk1', hk2', hfe, hfit, VmOp.dirties, VmOp.acts]
end XH
/-- the search: entries that are passed, then the one that takes it -/
theorem xfh {e : Env} {s₀ : State} {f : JFrame} {a : Addr} {cell : Cell} {x : ExceptionTableEntry} {rest : List ExceptionTableEntry} {c : ClassId} (hobj : ∀ k, cell.vm ≠ .statics k) (hk0 : ∃ k, s₀.vm.classes[cell.cls]? = some k) (hx : covers x f.pc = true) (h0 : x.catchType ≠ 0)
    (hl : s₀.vm.ClassLinks e.platform f.method.cls x.catchType c) (hfit : s₀.vm.assignable cell.cls c = true) : ∀ (pre : List ExceptionTableEntry) (S : State), s₀.WarmedH S.vm → S.heap[a]? = some cell →
      (∀ y ∈ pre, covers y f.pc = true ∧ y.catchType ≠ 0 ∧ ∃ c', s₀.vm.ClassLinks e.platform f.method.cls y.catchType c' ∧ s₀.vm.assignable cell.cls c' = false) →
      ∃ vm', s₀.WarmedH vm' ∧ ∀ (Q : Handler → Pre) (E' : CtlPost) (d : Bool) (acts : List Action), wp (findHandler.go f a (pre ++ x :: rest)) Q E' e d acts S ↔ Q (.found x.handlerPc) d acts (S.setVm vm') := by
  obtain ⟨k0, hk0⟩ := hk0
  intro pre
  induction pre with
  | nil =>
    intro S hW hcell _
    obtain ⟨k0', hk0', -⟩ := hW.alike.2.2 _ _ hk0
    obtain ⟨dk, _, _, kt, hd, _, _, _, _, hkt, _, hopen⟩ := hl.here
    obtain ⟨kt', hkt', -⟩ := hW.alike.2.2 _ _ hkt
    refine ⟨_, hW.noted hd hopen (State.rightAt_cls hl), fun Q E' d acts => ?_⟩
    rw [List.nil_append, xfh_link hx h0 (hW.classLinks hl) hcell hobj ⟨k0', hk0'⟩ ⟨kt', hkt'⟩, if_pos (by rw [hW.alike.assignable]; exact hfit)]
  | cons y ys ih =>
    intro S hW hcell hpass
    obtain ⟨hcov, hy0, c', hl', hno⟩ := hpass y List.mem_cons_self
    obtain ⟨k0', hk0', -⟩ := hW.alike.2.2 _ _ hk0
    obtain ⟨dk, _, _, kt, hd, _, _, _, _, hkt, _, hopen⟩ := hl'.here
    obtain ⟨kt', hkt', -⟩ := hW.alike.2.2 _ _ hkt
    obtain ⟨vm', hW', hq⟩ := ih (S.setVm (S.vm.noted f.method.cls y.catchType (.cls c'))) (hW.noted hd hopen (State.rightAt_cls hl')) hcell (fun z hz => hpass z (List.mem_cons_of_mem _ hz))
    refine ⟨vm', hW', fun Q E' d acts => ?_⟩
    rw [List.cons_append, xfh_link hcov hy0 (hW.classLinks hl') hcell hobj ⟨k0', hk0'⟩ ⟨kt', hkt'⟩, if_neg (by rw [hW.alike.assignable, hno]; decide)]
    exact hq Q E' d acts
/-- into the handler -/
theorem xcaught {tb : Tables} {e : Env} {s target : State} {g : JFrame} {c : Code} {below : List Frame} {a : Addr} {pc : Nat} {vm' : Vm} (h : At s g.method c below)
    (hfind : ∀ (Q : Handler → Pre) (E' : CtlPost) (d : Bool) (acts : List Action), wp (findHandler g a) Q E' e d acts ((s.setTop g).pushFrame (.throwing a)) ↔ Q (.found pc) d acts (((s.setTop g).pushFrame (.throwing a)).setVm vm'))
    (hrest : Steps tb e below ((s.setVm vm').setTop { g with pc := pc, stack := [.ref a] }) target) : Steps tb e below ((s.setTop g).pushFrame (.throwing a)) target := by
  obtain ⟨hgo, hw⟩ := h.throwing a
  refine Steps.head hgo hw ?_
  have hst : (stepThrowing e ((s.setTop g).pushFrame (.throwing a)) a (.java g :: s.frames.tail)).1 = (((s.setTop g).pushFrame (.throwing a)).setVm vm').setFrames (.java { g with pc := pc, stack := [.ref a] } :: s.frames.tail) := by
    simp only [stepThrowing, searchFrame, vmDo]
    generalize hr : Sem.go _ e false [] ((s.setTop g).pushFrame (.throwing a)) = res
    obtain ⟨as, rfl, ha⟩ := Sem.eq_ok_of hr (a := Handler.found pc) (s' := ((s.setTop g).pushFrame (.throwing a)).setVm vm') (acts' := []) (by simp [hfind _ _ _ _])
    rfl
  rw [stepThread_throwing (frames_entered h.top _), hst]
  obtain ⟨g₀, hg⟩ := Option.isSome_iff_exists.mp h.top
  obtain ⟨r, hr⟩ := State.topJava?_eq_some.mp hg
  have hr' : (s.setVm vm').frames = .java g₀ :: r := hr
  rw [State.setTop_of_frames _ hr'] at hrest
  have e1 : (((s.setTop g).pushFrame (.throwing a)).setVm vm').setFrames (.java { g with pc := pc, stack := [.ref a] } :: s.frames.tail) = (s.setVm vm').setFrames (.java { g with pc := pc, stack := [.ref a] } :: r) := by
    rw [State.pushFrame, State.setTop_of_frames _ hr, hr]
    show ((s.setFrames _).setFrames _ |>.setVm vm').setFrames _ = _
    rw [State.setFrames_setFrames]
    show ((s.setVm vm').setFrames _).setFrames _ = _
    rw [State.setFrames_setFrames]
    rfl
  rw [e1]
  exact hrest
end
section
/-- a call that throws, and is caught -/
def xCatches : Prop := ∀ (d : Nat) (p : Program) (l : Launch) (e : Env) (R : Room) (s : State) (m : MethodId) (args : Array Value) (below : List Frame) (meth : Method) (c : Code) (D : va_G) (dA : Nat → ClassId) (A : Nat → Prop) (n0 : Nat) (ad0 : Nat → Nat) (E : xP0) (Q : State → Prop) (M : xM) (pc : Nat) (ls : List (Option Value)) (st vs rest : List Value) (S S' : xS) (i : xC) (mi x : Nat) (q : Nat × Nat),
  l.stackTraces = false → xBase E → xCtx M d p l R s m args meth c D dA A E → xMok M → xat M.2.2.2.2.2.1 pc = some i → xisV i.1 = true → xstep d i pc ls st S = some (.inr (.inl (mi, vs, rest))) → xMok (xP mi) → (∀ ad sz, xMet l (xP mi) (d - 1) D dA E ad vs S sz (.inr x) S') → S'.2.2.2.2.1 ≤ S.2.2.2.2.1 → S'.2.2.2.2.2 ≤ S.2.2.2.2.2 →
  xcatch M.2.2.2.2.2.1 M.2.2.2.2.2.2 pc x = some q → xfree ls q.2 = true → q.2 < ls.length → xGood M p l e R s m args below meth c D dA A n0 ad0 E Q (q.1, ls.set q.2 none, [], S') → xGood M p l e R s m args below meth c D dA A n0 ad0 E Q (pc, ls, st, S)
section XCT
variable {d : Nat} {p : Program} {l : Launch} {e : Env} {R : Room} {s : State} {m : MethodId} {args : Array Value} {below : List Frame} {meth : Method} {c : Code} {D : va_G} {dA : Nat → ClassId} {A : Nat → Prop} {n0 : Nat} {ad0 : Nat → Nat} {E : xP0} {Q : State → Prop}
set_option maxHeartbeats 4000000 in
/-- the callee throws: the walk stands again, with the note over its frame -/
theorem xcallT {K : xM} {U : State} {locs : List Loc} {cells slots : Nat} {ad : Nat → Nat} {vs : List Value} {S S' : xS} {x : Nat} {g : JFrame} {mk : MethodId} {ig : Instr} (X : Stand p l e R s m args below meth c U locs cells slots) (hM : xMet l K (d - 1) D dA E ad vs S U.heap.size (.inr x) S')
    (hg : g.method = m) (hsize : g.locals.size = c.maxLocals) (hdg : decode c.code g.pc = .ok (ig, 3)) (hW : 2 * g.monitorRoom + (g.stack.map fun v => v.category).sum ≤ 8) (hn : U.methodNamed? K.2.1 = some mk) (hts : ∀ w ∈ xWS, w.before args s = true) (hk : xMok K) (hnh : K.2.2.2.2.2.2 = []) (hd : 0 < d) (hfr : d ≤ R.frames) (hlo : d * 35 ≤ R.locals)
    (hc : cells + S.2.2.2.2.1 = R.cells) (hz : slots + S.2.2.2.2.2 = R.slots) (hPc : xPc D dA E ad vs S U.heap.size (vs.map (xv ad)).toArray U) :
    ∃ (a : Addr) (t T' : State) (L : List Loc), Steps p.tables e below (doInvoke e (U.setTop g) [] mk (vs.map (xv ad)).toArray).1 ((T'.setTop g).pushFrame (.throwing a)) ∧ Stand p l e R s m args below meth c T' (locs ++ L) (cells + (S.2.2.2.2.1 - S'.2.2.2.2.1)) (slots + (S.2.2.2.2.2 - S'.2.2.2.2.2)) ∧ T'.heap = t.heap ∧ T'.vm = t.vm ∧
      xQc D dA E ad S U.heap.size (.inr x) S' (U.calling g mk (vs.map (xv ad)).toArray) (.threw a) t ∧ ∀ q ∈ L, va_A (xW ad dA S) U.heap.size q.base := by
  obtain ⟨k1, k2, k3, k4, k5, -⟩ := hk
  have hcw : Cond.code K.2.1 K.2.2.1 K.2.2.2.1 K.2.2.2.2.1 ∈ xWS := k2 hnh
  obtain ⟨methY, cY, hmY, hcY, -, hlY, -, -, -, -⟩ := Cond.code_spec hn (xws_at hts _ hcw #[] U X.warmed)
  obtain ⟨kY, hkY, -⟩ := className_of_methodNamed hn
  have hinitY : kY.init = .initialized := Cond.initialized_spec (findClass_of_methodNamed hn) hkY (xws_at hts _ k1 #[] U X.warmed)
  have h : At U g.method c below := by rw [hg]; exact X.here
  have happ : (headSpec xWS (xroom (d - 1) S)).appliesLoose K.2.1 e.platform (U.calling g mk (vs.map (xv ad)).toArray) = true :=
    Spec.appliesLoose_calling (g := g) h hdg hn hkY hinitY
      (X.room_calling (g := g) (R' := xroom (d - 1) S) hsize hmY hcY (by show d - 1 + 1 ≤ R.frames; omega) (by show _ + (cY.maxLocals + 11) + (d - 1) * 35 ≤ R.locals; rw [hlY]; omega) (Nat.le_of_eq hc) (Nat.le_of_eq hz)) (atoms_intro fun w hw => xws_at hts w hw _ _ X.warmed)
  obtain ⟨g₀, hfr0⟩ := X.frames_eq
  have hfr1 : (U.setTop g).frames = (.java g :: []) ++ below := by
    rw [State.frames_setTop' g h.top, hfr0]; rfl
  obtain ⟨o, s₂, hsteps, -, hend, hq, hWU, L, hF, hL⟩ := Steps.callFree hM p X.admits X.cas X.clock (acts := []) hfr1 happ (xPc_blind D dA E ad vs S _ _ _ _ _ hPc) trivial
  obtain ⟨ad', q1, q2⟩ := id hq
  obtain ⟨a, cell, C, rfl, -⟩ := q1
  have hend' : Ended s₂ (.java g :: below) (.threw a) := by
    rw [hfr1] at hend
    exact hend
  obtain ⟨T', XT, hWT, hsame, hs2⟩ := X.outOfThrown hg (mk := mk) (a := (vs.map (xv ad)).toArray) (t := s₂) (x := a) hend' hWU hF
  refine ⟨a, s₂, T', L, by rw [← hs2]; exact hsteps, XT, ?_, ?_, hq, hL⟩
  · rw [hs2, Stand.throwing_heap]
  · rw [hs2, Stand.throwing_vm]
end XCT
end
section
/-! Handlers. -/
theorem xlv.st0 {ad : Nat → Nat} {lsC lsD : Array Slot} {nL k : Nat} {ls : List (Option Value)} {w : Value} (h : xlv ad lsC nL ls) (hf : xfree ls k = true)
    (h' : lv_has lsD nL ((k, w) :: (xll ad ls).filter (fun q => !(q.1 == k) && !(q.1 + 1 == k && q.2.category == 2)))) : xlv ad lsD nL (ls.set k none) := by
  obtain ⟨h1, h2, h3, h4⟩ := h
  refine ⟨h'.1, h'.2.1, by simpa using h3, fun i v hv => ?_⟩
  by_cases hi : i = k
  · subst hi
    by_cases hl : i < ls.length
    · rw [List.getElem?_set_self hl] at hv
      cases hv
    · rw [List.getElem?_eq_none_iff.mpr (by simpa using Nat.le_of_not_lt hl)] at hv
      cases hv
  · rw [List.getElem?_set_ne (Ne.symm hi)] at hv
    refine h'.2.2 (i, xv ad v) (List.mem_cons_of_mem _ (List.mem_filter.mpr ⟨xll_mem.mpr ⟨v, hv, rfl⟩, ?_⟩))
    by_cases hik : i + 1 = k
    · have := xfree_ne hf hik hv ad
      simp [hi, this]
    · simp [hi, hik]
theorem xnc : ∀ i, i < 3 → ∀ j, j < 3 → i ≠ j → Cond.not (.castable (xexN.getD i "") (xexN.getD j "")) ∈ flatC (Jvm.Cond.and given_1 narrow_1) := by decide +kernel
theorem xyc : ∀ i, i < 3 → Cond.castable (xexN.getD i "") (xexN.getD i "") ∈ lw_tbl := by decide +kernel
theorem xexN_get {k : Nat} {X : String} (h : xexN[k]? = some X) : k < 3 ∧ xexN.getD k "" = X := by
  refine ⟨(List.getElem?_eq_some_iff.mp h).1, ?_⟩
  rw [List.getD_eq_getElem?_getD, h]
  rfl
/-- of two of the classes, neither is the other's; each is its own -/
theorem xasg {E : xP0} (hB : xBase E) {vm : Vm} (hal : E.1.vm.Alike vm) {i j : Nat} {X Y : String} {a b : ClassId} (hX : xexN[i]? = some X) (hY : xexN[j]? = some Y) (ha : vm.findClass X = some a) (hb : vm.findClass Y = some b) : vm.assignable a b = decide (i = j) := by
  obtain ⟨hi, eX⟩ := xexN_get hX
  obtain ⟨hj, eY⟩ := xexN_get hY
  rw [hal.findClass] at ha hb
  rw [hal.assignable]
  by_cases hij : i = j
  · subst hij
    have h := hB.1 _ (xyc i hi)
    rw [eX] at h
    cases hX.symm.trans hY
    cases ha.symm.trans hb
    obtain ⟨c3, c4, hc3, hc4, h5⟩ := Cond.castable_spec h
    cases hc3.symm.trans ha
    cases hc4.symm.trans ha
    rw [h5]
    simp
  · have h := flat_of_before _ hB.2 _ (xnc i hi j hj hij)
    rw [eX, eY] at h
    have hv := Cond.holds_not_iff.mp h
    simp only [Cond.value, ha, hb] at hv
    rw [Option.some.inj hv]
    simp [hij]
abbrev xHd : Type := Nat × Nat × Nat × Nat × Nat
/-- the entry that takes it, and those ahead of it -/
theorem xcatch_split {t : List (Nat × xC)} {pc x : Nat} {q : Nat × Nat} : ∀ (hs : List xHd) (es : List ExceptionTableEntry), es.map (fun h => (h.startPc, h.endPc, h.handlerPc, h.catchType)) = hs.map (fun h => (h.1, h.2.1, h.2.2.1, h.2.2.2.1)) → xcatch t hs pc x = some q →
    ∃ (pre : List ExceptionTableEntry) (y : ExceptionTableEntry) (rest : List ExceptionTableEntry), es = pre ++ y :: rest ∧ (∀ z ∈ pre, covers z pc = true ∧ ∃ h ∈ hs, z.catchType = h.2.2.2.1 ∧ h.2.2.2.2 ≠ x) ∧ covers y pc = true ∧ ∃ h ∈ hs, y.catchType = h.2.2.2.1 ∧ h.2.2.2.2 = x ∧
      ((∃ j mk dat, xat t y.handlerPc = some (.astore j, mk, dat) ∧ q = (y.handlerPc + 2, j)) ∨ ∃ (j : Fin 4) (mk dat : Nat), xat t y.handlerPc = some (.astore_n j, mk, dat) ∧ q = (y.handlerPc + 1, j.val))
  | [], _, _, h => by cases h
  | (a, b, hp, ct, k) :: hs, [], hm, h => by cases hm
  | (a, b, hp, ct, k) :: hs, e :: es, hm, h => by
    simp only [List.map_cons, List.cons.injEq, Prod.mk.injEq] at hm
    obtain ⟨⟨e1, e2, e3, e4⟩, hm⟩ := hm
    unfold xcatch at h
    obtain ⟨h1, h2, h⟩ := xnb2 h
    have hcov : covers e pc = true := by
      simp only [covers, Bool.and_eq_true, decide_eq_true_eq, e1, e2]
      exact ⟨Nat.le_of_ble_eq_true h1, Nat.blt_eq.mp h2⟩
    cases hq : Nat.beq k x with
    | true =>
      rw [hq] at h
      dsimp only [cond] at h
      refine ⟨[], e, es, rfl, fun z hz => (by cases hz), hcov, (a, b, hp, ct, k), List.mem_cons_self, e4, Nat.eq_of_beq_eq_true hq, ?_⟩
      rw [e3]
      split at h
      · rename_i j z hz
        obtain ⟨mk, dat⟩ := z
        cases h
        exact Or.inl ⟨j, mk, dat, hz, rfl⟩
      · rename_i j z hz
        obtain ⟨mk, dat⟩ := z
        cases h
        exact Or.inr ⟨j, mk, dat, hz, rfl⟩
      · cases h
    | false =>
      rw [hq] at h
      dsimp only [cond] at h
      obtain ⟨pre, y, rest, f1, f2, f3, hh, f4, f5⟩ := xcatch_split hs es hm h
      refine ⟨e :: pre, y, rest, by rw [f1]; rfl, fun z hz => ?_, f3, hh, List.mem_cons_of_mem _ f4, f5⟩
      rcases List.mem_cons.mp hz with rfl | hz
      · exact ⟨hcov, (a, b, hp, ct, k), List.mem_cons_self, e4, fun z => by
          have : Nat.beq k x = true := by rw [show k = x from z]; exact Nat.beq_refl x
          rw [hq] at this
          cases this⟩
      · obtain ⟨g1, g, g2, g3⟩ := f2 z hz
        exact ⟨g1, g, List.mem_cons_of_mem _ g2, g3⟩
set_option maxHeartbeats 4000000 in
set_option maxRecDepth 100000 in
theorem xcatches : xCatches := by
  intro d p l e R s m args below meth c D dA A n0 ad0 E Q M pc ls st vs rest S S' i mi x q hl hB X hMok hi hv hs hk hM hc hz hx hfree hqlt k
  have X0 := X
  obtain ⟨hx0, hb, hml, hown, hts, hK, hA, hini, hfr, hlo, hok, x1, x2, x3, x4, x5, x6, hexc⟩ := X
  obtain ⟨hd, hw⟩ := hok pc i hi
  obtain ⟨ins, mk0, dat⟩ := i
  cases ins with
  | invokevirtual ix =>
    intro ad H locs cells slots lsC hR0 hL0 T hT Xs
    have hR : xRel D dA A s R n0 ad0 E ad S H locs cells slots := hR0
    have hL : xlv ad lsC M.2.2.2.1 ls := hL0
    dsimp only [xstep] at hs
    split at hs
    case h_2 => cases hs
    rename_i kc hkc
    obtain ⟨ks, hg, hs⟩ := xobj_inv hs
    obtain ⟨h1, h2, o1, o2, rfl, hvl, hst⟩ := xcall_inv hs
    obtain ⟨w1, w2, ⟨C, TT, N, hcl, w4⟩, w3, hnh⟩ := hw
    dsimp only at w1 w2 w3 w4 hcl
    obtain ⟨hk1, hk2, hk3, hk4, hk5, hk6⟩ := id hk
    have hpos : 0 < dat % 16 := by
      cases hp : parseMethodDescriptor (xP (dat / 16 % 1000)).2.1.desc with
      | none => rw [hp] at w3; cases w3
      | some sig => rw [hp] at w3; have := Option.some.inj w3; dsimp only at this; omega
    obtain ⟨a0, vs', rfl⟩ : ∃ a0 vs', vs = a0 :: vs' := by
      cases vs with
      | nil => simp at hvl; omega
      | cons a0 vs' => exact ⟨a0, vs', rfl⟩
    have ha0 : a0 = .ref kc := by
      rw [hst] at hkc
      have hl : dat % 16 - 1 = vs'.length := by rw [List.length_cons] at hvl; omega
      rw [hl, List.getElem?_append_left (by simp)] at hkc
      simpa using hkc
    subst ha0
    obtain ⟨cellB, c1, c2, c3⟩ := va_recv hK hR.1 hcl (xW_at hg)
    -- the call
    obtain ⟨mk, methM, hnamed, hmethM, hstM, habM⟩ := Cond.instanceMethod_spec (hts _ w2)
    obtain ⟨methM', cM, hmethM', -, -, -, -, -, -, hsigM⟩ := Cond.code_spec hnamed (hts _ (hk2 hnh))
    cases hmethM.symm.trans hmethM'
    obtain ⟨cc2, r2, m2, q1, q2, q3, q4, kP, hkP, hkPi⟩ := Cond.selects_spec (hts _ w4)
    cases c3.symm.trans q1
    cases (State.methodFound?_of_named hnamed hk5).symm.trans q2
    cases hnamed.symm.trans q3
    have hselP : selectMethod e.platform s.vm cellB.cls mk = .method mk := by rw [Launch.admits_selectMethod Xs.admits]; exact q4
    have hlen : ∀ sig, parseMethodDescriptor (xP (dat / 16 % 1000)).2.1.desc = some sig → (vs'.map (xv ad)).length = sig.parameters.length := fun sig hsig => by
      rw [hsig] at w3
      have := Option.some.inj w3
      dsimp only at this
      rw [List.length_map]
      rw [List.length_cons] at hvl
      omega
    have hstk : (F0 m pc lsC (st.map (xv ad))).stack = (vs'.map (xv ad)).reverse ++ .ref (ad kc) :: rest.map (xv ad) := by
      rw [show (F0 m pc lsC (st.map (xv ad))).stack = st.map (xv ad) from rfl, xstk hst]
      simp [xv]
    obtain ⟨vm₁, X₁, hstep₁⟩ := Xs.invokevirtual hx0 hown (hts _ w1) hnamed hmethM hstM hkP hkPi hk5 (a := ad kc) (cell := cellB) (by rw [hT]; exact c1) (fun z h => by rw [h] at c2; cases c2) hselP hmethM habM hkP hkPi (g := F0 m pc lsC (st.map (xv ad))) rfl (argsL := vs'.map (xv ad)) (rest := rest.map (xv ad)) (hlen _ hsigM) hstk (by rw [hb]; exact hd)
    have hPc := xPc_at X0 hR (.ref kc :: vs') (T.setVm vm₁) hT X₁.warmed
    have hHs : (T.setVm vm₁).heap.size = H.size := by rw [← hT]; rfl
    obtain ⟨-, -, -, hc4, hc5, -⟩ := id hR
    obtain ⟨a, t, T', L, hsteps, XT, e1, e2, hq, hLL⟩ := xcallT (K := xP (dat / 16 % 1000)) (g := { F0 m pc lsC (st.map (xv ad)) with stack := rest.map (xv ad) }) (mk := mk) X₁ (by rw [hHs]; exact hM ad H.size) rfl (hL.1.trans hml.symm) (by rw [hb]; exact hd) (lv_room (by rw [xcat_sum]; exact h2)) (X₁.named hnamed) hts hk hnh h1 hfr hlo hc4 hc5 (by rw [hHs]; exact hPc)
    rw [hHs] at hq hLL
    obtain ⟨ad', qo, hR', hag⟩ := hR.back hA (st0 := (T.setVm vm₁).calling { F0 m pc lsC (st.map (xv ad)) with stack := rest.map (xv ad) } mk ((Value.ref kc :: vs').map (xv ad)).toArray) hT hc hz hq hLL
    rw [← e1] at hR'
    obtain ⟨a', cell, CX, ho, hCX, ht1, ht2, ht3⟩ := qo
    cases ho
    rw [← e1] at ht1
    rw [← e2, XT.warmed.alike.findClass] at ht3
    -- the handler
    have hne : M.2.2.2.2.2.2 ≠ [] := fun z => by rw [z] at hx; cases hx
    obtain ⟨pre, y, rst, f1, f2, f3, hh, f4, f5, f6, f7⟩ := xcatch_split _ _ (hexc hne) hx
    obtain ⟨-, -, -, -, -, kown, -, -, khd⟩ := hMok
    have hpl : e.platform.magicAccessors = ({} : Platform).magicAccessors := by rw [XT.admits.platform]
    have hlink : ∀ h ∈ M.2.2.2.2.2.2, h.2.2.2.1 ≠ 0 ∧ ∃ c', s.vm.ClassLinks e.platform m.cls h.2.2.2.1 c' ∧ s.vm.assignable cell.cls c' = decide (x = h.2.2.2.2) := fun h hm => by
      obtain ⟨g1, Y, g2, g3⟩ := khd h hm
      obtain ⟨c', hc', hcl'⟩ := Cond.classLink_spec hown (hts _ g3) e.platform hpl
      exact ⟨g1, c', hcl', xasg hB x6.alike hCX g2 ht3 hc'⟩
    obtain ⟨y0, cy, hcy, hay⟩ := hlink hh f4
    rw [f6] at hay
    obtain ⟨vm', hWv, hfind⟩ := xfh (e := e) (s₀ := s) (f := { F0 m pc lsC (st.map (xv ad)) with stack := rest.map (xv ad) }) (a := a) (cell := cell) (x := y) (rest := rst) (c := cy) (VmData.ne_statics_of ht2) (Vm.classAt_of_findClass ht3) f3 (by rw [f5]; exact y0) (by rw [f5]; exact hcy) (by rw [hay]; simp) pre ((T'.setTop { F0 m pc lsC (st.map (xv ad)) with stack := rest.map (xv ad) }).pushFrame (.throwing a)) (by rw [Stand.throwing_vm]; exact XT.warmed) (by rw [Stand.throwing_heap]; exact ht1)
      (fun z hz => by
        obtain ⟨g1, h, g2, g3, g4⟩ := f2 z hz
        obtain ⟨g5, c', g6, g7⟩ := hlink h g2
        exact ⟨g1, by rw [g3]; exact g5, c', by rw [g3]; exact g6, by rw [g7]; simp [Ne.symm g4]⟩)
    have hfind2 : ∀ (Q : Handler → Pre) (E' : CtlPost) (d : Bool) (acts : List Action), wp (findHandler { F0 m pc lsC (st.map (xv ad)) with stack := rest.map (xv ad) } a) Q E' e d acts ((T'.setTop { F0 m pc lsC (st.map (xv ad)) with stack := rest.map (xv ad) }).pushFrame (.throwing a)) ↔ Q (.found y.handlerPc) d acts (((T'.setTop { F0 m pc lsC (st.map (xv ad)) with stack := rest.map (xv ad) }).pushFrame (.throwing a)).setVm vm') := fun Q E' d acts => by
      rw [W.findHandler_eq (meth := meth) (code := c) (by rw [Stand.throwing_vm]; exact XT.method') XT.code, f1]
      exact hfind Q E' d acts
    have XV := XT.noted hWv
    have hLa : xlv ad' lsC M.2.2.2.1 ls := hL.ag hag o1
    have hn : q.2 < M.2.2.2.1 := hL.2.2.1 ▸ hqlt
    have wk : W p l e R s m args below meth c T'.heap (locs ++ L) (cells + (S.2.2.2.2.1 - S'.2.2.2.2.1)) (slots + (S.2.2.2.2.2 - S'.2.2.2.2.2)) Q (F0 m y.handlerPc lsC [.ref a]) := by
      rcases f7 with ⟨j, mk1, dat1, hat, rfl⟩ | ⟨j, mk1, dat1, hat, rfl⟩
      · obtain ⟨hd2, -⟩ := hok _ _ hat
        exact lv_astore hx0 hb hd2 hLa.has hn rfl (fun ls' h' => k ad' _ _ _ _ ls' hR' (hLa.st0 hfree h'))
      · obtain ⟨hd2, -⟩ := hok _ _ hat
        exact lv_astore_n hx0 hb hd2 rfl hLa.has hn rfl (fun ls' h' => k ad' _ _ _ _ ls' hR' (hLa.st0 hfree h'))
    obtain ⟨t2, a1, b1⟩ := wk (T'.setVm vm') rfl XV
    refine ⟨t2, hstep₁ _ (fun acts => ?_), b1⟩
    rw [doInvoke_state]
    exact hsteps.trans (xcaught XT.here hfind2 a1)
  | _ => cases hv
end
section
/-! All runs, by their length. -/
section XA
variable {d : Nat} {p : Program} {l : Launch} {e : Env} {R : Room} {s : State} {m : MethodId} {args : Array Value} {below : List Frame} {meth : Method} {c : Code} {D : va_G} {dA : Nat → ClassId} {A : Nat → Prop} {n0 : Nat} {ad0 : Nat → Nat} {E : xP0} {Q : State → Prop}
variable {M K : xM} {pc : Nat} {ls : List (Option Value)} {vs rest st : List Value} {S S' : xS}
/-- the callee's premise, where the callee has handlers -/
theorem xbackW {ad : Nat → Nat} {sz : Nat} {v : Option Value} (hM : xMet l K (d - 1) D dA E ad vs S sz (.inl v) S') (hts : ∀ w ∈ xWS, w.before args s = true) (hk : xMok K) (hnh : K.2.2.2.2.2.2 ≠ []) (hd : 0 < d) (hfr : d ≤ R.frames) (hlo : d * 35 ≤ R.locals) :
    Back l R p e below s args K.2.1 3 8 (PreOf R S.2.2.2.2.1 S.2.2.2.2.2 (xPc D dA E ad vs S sz)) (PostOf (fun _ st o t => xQc D dA E ad S sz (.inl v) S' st o t) (S.2.2.2.2.1 - S'.2.2.2.2.1) (S.2.2.2.2.2 - S'.2.2.2.2.2) (va_A (xW ad dA S) sz)) := by
  obtain ⟨k1, k2, k3, k4, k5, k6, k7, k8, -⟩ := hk
  have hcw := k8 hnh
  refine Back.of_freeWith (handlers := K.2.2.2.2.2.2.map fun h => (h.1, h.2.1, h.2.2.1, h.2.2.2.1)) (S := headSpec xWS (xroom (d - 1) S)) (P := xPc D dA E ad vs S sz) (K := fun _ _ _ _ _ => True) (Q := fun _ st o t => xQc D dA E ad S sz (.inl v) S' st o t ∧ xQf (va_A (xW ad dA S) sz) (S.2.2.2.2.1 - S'.2.2.2.2.1) (S.2.2.2.2.2 - S'.2.2.2.2.2) st t) (bytes := K.2.2.1) (maxL := K.2.2.2.1) (ret := K.2.2.2.2.1)
    (E := fun a st o t L k n => k = S.2.2.2.2.1 - S'.2.2.2.2.1 ∧ n = S.2.2.2.2.2 - S'.2.2.2.2.2 ∧ ∀ q ∈ L, va_A (xW ad dA S) sz q.base) hM ?_ ?_ ?_ ?_ (fun _ _ _ _ _ _ _ _ _ => trivial) ?_ ?_
  · show d - 1 + 1 ≤ R.frames
    omega
  · show 8 + (K.2.2.2.1 + 11) + (d - 1) * 35 ≤ R.locals
    omega
  · intro m meth c B a X hp
    exact ⟨atoms_intro fun w hw => xws_at hts w hw _ _ X.warmed, xws_at hts _ hcw _ _ X.warmed, xws_at hts _ k1 _ _ X.warmed, hp.1, hp.2.1⟩
  · intro m meth c B a g mk X hp
    exact xPc_blind D dA E ad vs S sz _ _ _ _ hp.2.2
  · intro a st o t ⟨hq, hW, L, hF, hL⟩
    refine ⟨L, _, _, ⟨?_, hW, hF⟩, rfl, rfl, hL⟩
    obtain ⟨ad', q1, -⟩ := hq
    exact ⟨_, q1⟩
  · intro m meth c B a g mk v' t L k n X hp hq hF ⟨e1, e2, hL⟩
    subst e1; subst e2
    exact ⟨g, mk, t, L, rfl, rfl, hq.1, rfl, hL, rfl, rfl⟩
set_option maxHeartbeats 4000000 in
set_option maxRecDepth 100000 in
/-- a static call of a method with handlers -/
theorem xcall_SW {ix len dat mi : Nat} {v : Option Value} (X : xCtx M d p l R s m args meth c D dA A E) (hok : xOK M pc (.invokestatic ix, len, dat)) (h : xstep d (.invokestatic ix, len, dat) pc ls st S = some (.inr (.inl (mi, vs, rest))))
    (hk : xMok (xP mi)) (hnh : (xP mi).2.2.2.2.2.2 ≠ []) (hM : ∀ ad sz, xMet l (xP mi) (d - 1) D dA E ad vs S sz (.inl v) S') (hc : S'.2.2.2.2.1 ≤ S.2.2.2.2.1) (hz : S'.2.2.2.2.2 ≤ S.2.2.2.2.2)
    (k : xGood M p l e R s m args below meth c D dA A n0 ad0 E Q (pc + 3, ls, v.toList ++ rest, S')) : xGood M p l e R s m args below meth c D dA A n0 ad0 E Q (pc, ls, st, S) := by
  have X0 := X
  obtain ⟨hx, hb, hml, hown, hts, hK, hA, hini, hfr, hlo, -⟩ := X
  obtain ⟨hd, hw⟩ := hok
  intro ad H locs cells slots lsC hR0 hL0 T hT Xs
  have hR : xRel D dA A s R n0 ad0 E ad S H locs cells slots := hR0
  have hL : xlv ad lsC M.2.2.2.1 ls := hL0
  dsimp only [xstep] at h
  cases hq : Nat.beq dat 14421 with
  | true =>
    rw [hq] at h
    exfalso
    dsimp only [cond, xcopy] at h
    split at h
    · obtain ⟨_, _, h⟩ := xarr_inv h
      obtain ⟨_, _, h⟩ := xarr_inv h
      obtain ⟨_, h⟩ := xif_inv h
      cases h
    · cases h
  | false =>
  rw [hq] at h
  have hdat : ¬ dat = 14421 := fun z => by rw [z] at hq; cases hq
  dsimp only at hw
  rw [if_neg hdat] at hw
  obtain ⟨h1, h2, o1, o2, rfl, hvl, hst⟩ := xcall_inv h
  obtain ⟨w1, w2, w3⟩ := hw
  obtain ⟨hk1, hk2, hk3, hk4, hk5, hk6, hk7, hk8, hk9⟩ := id hk
  obtain ⟨mk, methM, cM, hnamed, hmethM, -, -, -, -, -, -, hsigM⟩ := Cond.codeWith_spec (hts _ (hk8 hnh))
  have hstatic : methM.isStatic = true := Cond.static_spec hnamed hmethM (hts _ w2)
  obtain ⟨kP, hkP, -⟩ := className_of_methodNamed hnamed
  have hinitP : kP.init = .initialized := Cond.initialized_spec (findClass_of_methodNamed hnamed) hkP (hts _ hk1)
  have hlen : ∀ sig, parseMethodDescriptor (xP (dat / 16 % 1000)).2.1.desc = some sig → (vs.map (xv ad)).length = sig.parameters.length := fun sig hsig => by
    rw [hsig] at w3
    rw [List.length_map, hvl]
    exact (Option.some.inj w3).symm
  obtain ⟨vm₁, X₁, hstep₁⟩ := Xs.invokestatic hx hown (hts _ w1) hnamed hmethM hstatic hkP hinitP hk5 (g := F0 m pc lsC (st.map (xv ad))) rfl (argsL := vs.map (xv ad)) (rest := rest.map (xv ad)) (hlen _ hsigM) (xstk hst) (by rw [hb]; exact hd)
  obtain ⟨v', B, X', hpost, hsteps⟩ := xbackW (hM ad H.size) hts hk hnh h1 hfr hlo m meth c ⟨T.setVm vm₁, locs, cells, slots⟩ { F0 m pc lsC (st.map (xv ad)) with stack := rest.map (xv ad) } (.invokestatic ix) mk (vs.map (xv ad)).toArray X₁ rfl (hL.1.trans hml.symm) (by rw [hb]; exact hd) (lv_room (by rw [xcat_sum]; exact h2)) (X₁.named hnamed)
    ⟨by obtain ⟨-, -, -, e4, -⟩ := hR; exact Nat.le_of_eq e4, by obtain ⟨-, -, -, -, e5, -⟩ := hR; exact Nat.le_of_eq e5, xPc_at X0 hR vs (T.setVm vm₁) hT X₁.warmed⟩
  exact xafter hA hR hL hT o1 (fun w hw => o2 w (by rw [hst]; exact List.mem_append_right _ hw)) hc hz k X' hpost (fun target h => hstep₁ _ fun acts => by rw [doInvoke_state]; exact hsteps.trans h)
theorem xnest_at (hB : xBase E) (hE : E.1.WarmedH s.vm) : ∀ w ∈ xWN, w.before args s = true := by
  intro w hw
  obtain ⟨h1, h2⟩ := List.mem_filter.mp hw
  have h0 := hB.1 w h1
  cases w with
  | methodLinkNest a i x h => exact va_Nw.use rfl (va_Nw.warmM hE (va_Nw.of rfl h0))
  | _ => cases h2
theorem xcall_all {i : xC} {mi : Nat} {v : Option Value} (hB : xBase E) (X : xCtx M d p l R s m args meth c D dA A E) (hok : xOK M pc i) (h : xstep d i pc ls st S = some (.inr (.inl (mi, vs, rest))))
    (hk : xMok (xP mi)) (hM : ∀ ad sz, xMet l (xP mi) (d - 1) D dA E ad vs S sz (.inl v) S') (hc : S'.2.2.2.2.1 ≤ S.2.2.2.2.1) (hz : S'.2.2.2.2.2 ≤ S.2.2.2.2.2)
    (k : xGood M p l e R s m args below meth c D dA A n0 ad0 E Q (pc + 3, ls, v.toList ++ rest, S')) : xGood M p l e R s m args below meth c D dA A n0 ad0 E Q (pc, ls, st, S) := by
  obtain ⟨ins, len, dat⟩ := i
  cases ins with
  | invokestatic ix =>
    by_cases hnh : (xP mi).2.2.2.2.2.2 = []
    · exact xcall_S X hok h hk hnh hM hc hz k
    · exact xcall_SW X hok h hk hnh hM hc hz k
  | invokevirtual ix => exact xcall_V X hok h hk hM hc hz k
  | invokespecial ix =>
    obtain ⟨-, -, -, -, -, -, -, -, -, -, -, -, -, -, -, -, x6, -⟩ := id X
    exact xcall_I X hok h (xnest_at hB x6) hk hM hc hz k
  | ifCond cnd off =>
    exfalso
    cases cnd <;> (simp only [xstep, xi1] at h; split at h <;> cases h)
  | if_icmp cnd off =>
    exfalso
    cases cnd <;> (simp only [xstep, xi2] at h; split at h <;> cases h)
  | _ =>
    exfalso
    simp only [xstep, xi1, xi2, xj1, xj2, xji, xr1, xir, xiir, xjir, xli, xlj, xlr, xst1, xst2, xarr, xarrB, xobj, xin, Bool.cond_eq_ite] at h
    repeat' split at h
    all_goals cases h
end XA
theorem xkl_len (m : Nat) (ls : List (Option Value)) : (xkl m ls).length = ls.length := by
  induction ls generalizing m with
  | nil => rfl
  | cons o r ih => simp only [xkl, List.length_cons, ih]
theorem xkl_at {m i : Nat} {ls : List (Option Value)} {v : Value} (h : (xkl m ls)[i]? = some (some v)) : ls[i]? = some (some v) := by
  induction ls generalizing m i with
  | nil => cases i <;> cases h
  | cons o r ih =>
    cases i with
    | zero =>
      rw [xkl, List.getElem?_cons_zero] at h
      rw [List.getElem?_cons_zero]
      cases hq : Nat.beq (m % 2) 1 with
      | true => rw [hq] at h; cases h
      | false => rw [hq] at h; exact h
    | succ i =>
      rw [xkl, List.getElem?_cons_succ] at h
      rw [List.getElem?_cons_succ]
      exact ih h
theorem xlv.kl {ad : Nat → Nat} {lsC : Array Slot} {nL : Nat} {ls : List (Option Value)} (m : Nat) (h : xlv ad lsC nL ls) : xlv ad lsC nL (xkl m ls) := ⟨h.1, h.2.1, by rw [xkl_len]; exact h.2.2.1, fun i v hv => h.2.2.2 i v (xkl_at hv)⟩
theorem xGood.kl {M : xM} {p : Program} {l : Launch} {e : Env} {R : Room} {s : State} {m : MethodId} {args : Array Value} {below : List Frame} {meth : Method} {c : Code} {D : va_G} {dA : Nat → ClassId} {A : Nat → Prop} {n0 : Nat} {ad0 : Nat → Nat} {E : xP0} {Q : State → Prop} {pc : Nat} {ls : List (Option Value)} {st : List Value} {S : xS} (k : Nat)
    (h : xGood M p l e R s m args below meth c D dA A n0 ad0 E Q (pc, xkl k ls, st, S)) : xGood M p l e R s m args below meth c D dA A n0 ad0 E Q (pc, ls, st, S) := fun ad H locs cells slots lsC hR hL => h ad H locs cells slots lsC hR (hL.kl k)
theorem xdbl {n : Nat} {st : List Value} (h : ∀ w ∈ st, xokv n w = true) : ∀ b, Value.double b ∉ st := fun b hb => by
  have := h _ hb
  cases this
theorem xcall_ok {d n : Nat} {i : xC} {pc mi : Nat} {ls : List (Option Value)} {st vs rest : List Value} {S : xS} (h : xstep d i pc ls st S = some (.inr (.inl (mi, vs, rest)))) : ∀ b, Value.double b ∉ vs := by
  obtain ⟨ins, len, dat⟩ := i
  have key : ∀ {n dat : Nat}, xcall d dat n ls st = some (.inr (.inl (mi, vs, rest))) → ∀ b, Value.double b ∉ vs := fun h b hb => by
    obtain ⟨-, -, -, o2, -, -, hst⟩ := xcall_inv h
    exact xdbl o2 b (by rw [hst]; exact List.mem_append_left _ (List.mem_reverse.mpr hb))
  cases ins with
  | invokestatic j =>
    dsimp only [xstep] at h
    cases hq : Nat.beq dat 14421 with
    | true =>
      rw [hq] at h
      exfalso
      simp only [cond, xcopy, xarr, Bool.cond_eq_ite] at h
      repeat' split at h
      all_goals cases h
    | false => rw [hq] at h; exact key h
  | invokevirtual j =>
    dsimp only [xstep] at h
    split at h
    · obtain ⟨_, _, h⟩ := xobj_inv h
      exact key h
    · cases h
  | invokespecial j =>
    dsimp only [xstep] at h
    cases hq : Nat.beq dat 14401 with
    | true =>
      rw [hq] at h
      exfalso
      simp only [cond, xr1, Bool.cond_eq_ite] at h
      repeat' split at h
      all_goals cases h
    | false =>
      rw [hq] at h
      dsimp only [cond] at h
      split at h
      · exact key h
      · cases h
  | ifCond cnd off =>
    exfalso
    cases cnd <;> (simp only [xstep, xi1] at h; split at h <;> cases h)
  | if_icmp cnd off =>
    exfalso
    cases cnd <;> (simp only [xstep, xi2] at h; split at h <;> cases h)
  | _ =>
    exfalso
    simp only [xstep, xi1, xi2, xj1, xj2, xji, xr1, xir, xiir, xjir, xli, xlj, xlr, xst1, xst2, xarr, xarrB, xobj, xin, Bool.cond_eq_ite] at h
    repeat' split at h
    all_goals cases h
set_option maxHeartbeats 4000000 in
set_option maxRecDepth 100000 in
theorem xrun (hT : xThrows) (hC : xCatches) (htab : ∀ mi pc i, xat (xP mi).2.2.2.2.2.1 pc = some i → xOK (xP mi) pc i) (hok : ∀ mi, mi < 999 → xMok (xP mi)) (hlaw : ∀ mi, ¬ mi < 999 → (xP mi).2.2.2.2.2.2 = []) : ∀ n, xInv n := by
  intro n
  induction n with
  | zero =>
    intro d mi f out S' h
    cases h
  | succ n ih =>
    intro d mi f out S' h p l e R s m args below meth c D dA A n0 ad0 E Q hl hB X fin
    obtain ⟨pc, ls0, st, S⟩ := f
    unfold ax at h
    dsimp only at h
    refine xGood.kl (xmask mi pc) ?_
    generalize xkl (xmask mi pc) ls0 = ls at h ⊢
    cases hi : xat (xP mi).2.2.2.2.2.1 pc with
    | none => rw [hi] at h; cases h
    | some i =>
    rw [hi] at h
    dsimp only at h
    have hO := htab mi pc i hi
    cases hs : xstep d i pc ls st S with
    | none => rw [hs] at h; cases h
    | some r =>
    rw [hs] at h
    cases r with
    | inl f' => exact xnext X hO hs (ih d mi f' out S' h p l e R s m args below meth c D dA A n0 ad0 E Q hl hB X fin)
    | inr r =>
    cases r with
    | inr r =>
      dsimp only at h
      cases h
      exact fin pc ls st S i hi hs
    | inl kk =>
    obtain ⟨mk, vs, rest⟩ := kk
    dsimp only at h
    obtain ⟨hb1, hb2, h⟩ := xnb2 h
    have hsl : (xsl vs).length ≤ (xP mk).2.2.2.1 := Nat.le_of_ble_eq_true hb1
    have hmk : mk < 999 := Nat.blt_eq.mp hb2
    cases ha : ax xP n (d - 1) mk (0, xent (xP mk).2.2.2.1 vs, [], S) with
    | none => rw [ha] at h; cases h
    | some oS =>
    rw [ha] at h
    obtain ⟨o, S1⟩ := oS
    dsimp only at h
    obtain ⟨b1, b2, h⟩ := xnb2 h
    have hc : S1.2.2.2.2.1 ≤ S.2.2.2.2.1 := Nat.le_of_ble_eq_true b1
    have hz : S1.2.2.2.2.2 ≤ S.2.2.2.2.2 := Nat.le_of_ble_eq_true b2
    have hM : ∀ ad sz, xMet l (xP mk) (d - 1) D dA E ad vs S sz o S1 := fun ad sz => xmet ih hT hl (hok mk hmk) ha (xcall_ok (n := n) hs) hsl D dA E hB ad sz
    cases o with
    | inl v => exact xcall_all hB X hO hs (hok mk hmk) hM hc hz (ih d mi _ out S' h p l e R s m args below meth c D dA A n0 ad0 E Q hl hB X fin)
    | inr x =>
      dsimp only at h
      cases hv : xisV i.1 with
      | false => rw [hv] at h; cases h
      | true =>
      rw [hv] at h
      dsimp only [cond, Bool.not] at h
      cases hx : xcatch (xP mi).2.2.2.2.2.1 (xP mi).2.2.2.2.2.2 pc x with
      | none => rw [hx] at h; cases h
      | some q =>
      rw [hx] at h
      obtain ⟨b3, b4, h⟩ := xnb2 h
      have hmi : mi < 999 := by
        by_cases hmi : mi < 999
        · exact hmi
        · rw [hlaw mi hmi] at hx
          cases hx
      exact hC d p l e R s m args below meth c D dA A n0 ad0 E Q (xP mi) pc ls st vs rest S S1 i mk x q hl hB X (hok mi hmi) hi hv hs (hok mk hmk) hM hc hz hx b3 (Nat.blt_eq.mp b4) (ih d mi _ out S' h p l e R s m args below meth c D dA A n0 ad0 E Q hl hB X fin)
end
section
/-! What a program decides of the tables. -/
/-- kind, entry, what it means, places of its words -/
abbrev xLk : Type := Nat × Nat × Nat × Nat × Nat × Nat
def xk0 (own : String) (ix dat p1 p2 p3 : Nat) : Bool := match xcl[dat / 64]? with
    | some r => Nat.blt (dat % 64) r.2.2 && decide (lw_tbl[p1]? = some (.fieldLink own ix (r.2.1 (dat % 64)).1 (r.2.1 (dat % 64)).2.1 (r.2.1 (dat % 64)).2.2.1))
    | none => false
def xk1 (own : String) (ix dat p1 p2 p3 : Nat) : Bool := decide (lw_tbl[p1]? = some (.methodLink own ix (xP (dat / 16 % 1000)).2.1)) && decide (lw_tbl[p2]? = some (.static (xP (dat / 16 % 1000)).2.1)) && decide ((parseMethodDescriptor (xP (dat / 16 % 1000)).2.1.desc).map (fun d => d.parameters.length) = some (dat % 16))
def xk2 (own : String) (ix dat p1 p2 p3 : Nat) : Bool := match xcl[dat / 16000]? with
    | some r => decide (lw_tbl[p1]? = some (.methodLink own ix (xP (dat / 16 % 1000)).2.1)) && decide (lw_tbl[p2]? = some (.instanceMethod (xP (dat / 16 % 1000)).2.1)) && decide (lw_tbl[p3]? = some (.selects r.1 (xP (dat / 16 % 1000)).2.1 (xP (dat / 16 % 1000)).2.1)) && decide ((parseMethodDescriptor (xP (dat / 16 % 1000)).2.1.desc).map (fun d => d.parameters.length + 1) = some (dat % 16)) && (xP (dat / 16 % 1000)).2.2.2.2.2.2.isEmpty
    | none => false
def xk3 (own : String) (ix dat p1 p2 p3 : Nat) : Bool := decide ((xP (dat / 16 % 1000)).2.1.name = "<init>") && decide (lw_tbl[p1]? = some (.methodLink own ix (xP (dat / 16 % 1000)).2.1)) && decide (lw_tbl[p2]? = some (.instanceMethod (xP (dat / 16 % 1000)).2.1)) && decide ((xP (dat / 16 % 1000)).2.2.2.2.1 = none) && decide ((parseMethodDescriptor (xP (dat / 16 % 1000)).2.1.desc).map (fun d => d.parameters.length + 1) = some (dat % 16)) && (xP (dat / 16 % 1000)).2.2.2.2.2.2.isEmpty
def xk4 (own : String) (ix dat p1 p2 p3 : Nat) : Bool := decide ((xP (dat / 16 % 1000)).2.1.name = "<init>") && decide (lw_tbl[p1]? = some (.methodLinkNest own ix (xP (dat / 16 % 1000)).2.1 xhost)) && decide (lw_tbl[p2]? = some (.instanceMethod (xP (dat / 16 % 1000)).2.1)) && decide ((xP (dat / 16 % 1000)).2.2.2.2.1 = none) && decide ((parseMethodDescriptor (xP (dat / 16 % 1000)).2.1.desc).map (fun d => d.parameters.length + 1) = some (dat % 16)) && (xP (dat / 16 % 1000)).2.2.2.2.2.2.isEmpty
def xk5 (own : String) (ix dat p1 p2 p3 : Nat) : Bool := decide (lw_tbl[p1]? = some (.constant own ix (Int32.ofNat dat)))
def xk6 (own : String) (ix dat p1 p2 p3 : Nat) : Bool := decide (lw_tbl[p1]? = some (.constantLong own ix (Int64.ofNat dat)))
def xk7 (own : String) (ix dat p1 p2 p3 : Nat) : Bool := decide (lw_tbl[p1]? = some (.methodLink own ix arraycopyName))
def xk8 (own : String) (ix dat p1 p2 p3 : Nat) : Bool := decide (lw_tbl[p1]? = some (.methodLink own ix Lib.objectInit))
def xk9 (own : String) (ix dat p1 p2 p3 : Nat) : Bool := match xcl[dat]? with
    | some r => decide (lw_tbl[p1]? = some (.classLink own ix r.1)) && decide (lw_tbl[p2]? = some (.instantiable r.1 r.2.2)) && decide (lw_tbl[p3]? = some (.initialized r.1))
    | none => false
def xlok (own : String) (q : xLk) : Bool := match q.1 with
  | 0 => xk0 own q.2.1 q.2.2.1 q.2.2.2.1 q.2.2.2.2.1 q.2.2.2.2.2
  | 1 => xk1 own q.2.1 q.2.2.1 q.2.2.2.1 q.2.2.2.2.1 q.2.2.2.2.2
  | 2 => xk2 own q.2.1 q.2.2.1 q.2.2.2.1 q.2.2.2.2.1 q.2.2.2.2.2
  | 3 => xk3 own q.2.1 q.2.2.1 q.2.2.2.1 q.2.2.2.2.1 q.2.2.2.2.2
  | 4 => xk4 own q.2.1 q.2.2.1 q.2.2.2.1 q.2.2.2.2.1 q.2.2.2.2.2
  | 5 => xk5 own q.2.1 q.2.2.1 q.2.2.2.1 q.2.2.2.2.1 q.2.2.2.2.2
  | 6 => xk6 own q.2.1 q.2.2.1 q.2.2.2.1 q.2.2.2.2.1 q.2.2.2.2.2
  | 7 => xk7 own q.2.1 q.2.2.1 q.2.2.2.1 q.2.2.2.2.1 q.2.2.2.2.2
  | 8 => xk8 own q.2.1 q.2.2.1 q.2.2.2.1 q.2.2.2.2.1 q.2.2.2.2.2
  | 9 => xk9 own q.2.1 q.2.2.1 q.2.2.2.1 q.2.2.2.2.1 q.2.2.2.2.2
  | _ => false
def xlin (L : List xLk) (kind ix dat : Nat) : Bool := L.any (fun q => Nat.beq q.1 kind && Nat.beq q.2.1 ix && Nat.beq q.2.2.1 dat)
theorem xlin_ok {L : List xLk} {own : String} (hL : L.all (xlok own) = true) {kind ix dat : Nat} (h : xlin L kind ix dat = true) : ∃ a b c, xlok own (kind, ix, dat, a, b, c) = true := by
  obtain ⟨q, hq, h⟩ := List.any_eq_true.mp h
  simp only [Bool.and_eq_true] at h
  have := List.all_eq_true.mp hL q hq
  obtain ⟨k, i, d, a, b, c⟩ := q
  cases Nat.eq_of_beq_eq_true h.1.1
  cases Nat.eq_of_beq_eq_true h.1.2
  cases Nat.eq_of_beq_eq_true h.2
  exact ⟨a, b, c, this⟩
theorem xl0 {own : String} {ix dat a b c : Nat} (h : xlok own (0, ix, dat, a, b, c) = true) : xfl own ix dat := by
  have h : xk0 own ix dat a b c = true := h
  unfold xk0 at h
  split at h
  · rename_i r hr
    obtain ⟨C, T, N⟩ := r
    rw [Bool.and_eq_true, decide_eq_true_eq] at h
    exact ⟨C, T, N, hr, Nat.blt_eq.mp h.1, xmem a h.2 rfl⟩
  · cases h
theorem xl1 {own : String} {ix dat a b c : Nat} (h : xlok own (1, ix, dat, a, b, c) = true) : xlkS own ix dat := by
  have h : xk1 own ix dat a b c = true := h
  unfold xk1 at h
  simp only [Bool.and_eq_true, decide_eq_true_eq] at h
  exact ⟨xmem a h.1.1 rfl, xmem b h.1.2 rfl, h.2⟩
theorem xl2 {own : String} {ix dat a b c : Nat} (h : xlok own (2, ix, dat, a, b, c) = true) : xlkV own ix dat := by
  have h : xk2 own ix dat a b c = true := h
  unfold xk2 at h
  split at h
  · rename_i r hr
    obtain ⟨C, T, N⟩ := r
    simp only [Bool.and_eq_true, decide_eq_true_eq] at h
    exact ⟨xmem a h.1.1.1.1 rfl, xmem b h.1.1.1.2 rfl, ⟨C, T, N, hr, xmem c h.1.1.2 rfl⟩, h.1.2, List.isEmpty_iff.mp h.2⟩
  · cases h
theorem xl3 {own : String} {ix dat a b c : Nat} (h : xlok own (3, ix, dat, a, b, c) = true) : xlkI own ix dat := by
  have h : xk3 own ix dat a b c = true := h
  unfold xk3 at h
  simp only [Bool.and_eq_true, decide_eq_true_eq] at h
  exact ⟨h.1.1.1.1.1, Or.inl (xmem a h.1.1.1.1.2 rfl), xmem b h.1.1.1.2 rfl, h.1.1.2, h.1.2, List.isEmpty_iff.mp h.2⟩
theorem xl4 {own : String} {ix dat a b c : Nat} (h : xlok own (4, ix, dat, a, b, c) = true) : xlkI own ix dat := by
  have h : xk4 own ix dat a b c = true := h
  unfold xk4 at h
  simp only [Bool.and_eq_true, decide_eq_true_eq] at h
  exact ⟨h.1.1.1.1.1, Or.inr (List.mem_filter.mpr ⟨List.mem_of_getElem? h.1.1.1.1.2, rfl⟩), xmem b h.1.1.1.2 rfl, h.1.1.2, h.1.2, List.isEmpty_iff.mp h.2⟩
theorem xl9 {own : String} {ix dat a b c : Nat} (h : xlok own (9, ix, dat, a, b, c) = true) : ∃ (C : String) (T : u_T) (N : Nat), xcl[dat]? = some (C, T, N) ∧ Cond.classLink own ix C ∈ xWS ∧ Cond.instantiable C N ∈ xWS ∧ Cond.initialized C ∈ xWS := by
  have h : xk9 own ix dat a b c = true := h
  unfold xk9 at h
  split at h
  · rename_i r hr
    obtain ⟨C, T, N⟩ := r
    simp only [Bool.and_eq_true, decide_eq_true_eq] at h
    exact ⟨C, T, N, hr, xmem a h.1.1 rfl, xmem b h.1.2 rfl, xmem c h.2 rfl⟩
  · cases h
/-- the default kinds of a class -/
def xkb (dat : Nat) : Bool := match xcl[dat]?, xkinds dat with
  | some r, some ks => Nat.beq ks.length r.2.2 && (List.range r.2.2).all (fun j => match ks[j]?, parseFieldDescriptor (r.2.1 j).2.2.1 with
    | some none, some .int => true
    | some (some .null), some (.object _) => true
    | some (some .null), some (.array _) => true
    | _, _ => false)
  | _, _ => false
theorem xkb_ok {dat : Nat} (h : xkb dat = true) {C : String} {T : u_T} {N : Nat} (hc : xcl[dat]? = some (C, T, N)) : ∃ ks, xkinds dat = some ks ∧ ks.length = N ∧ ∀ j, j < N → (ks[j]? = some none ∧ parseFieldDescriptor (T j).2.2.1 = some .int) ∨ (ks[j]? = some (some .null) ∧ ∃ ty, parseFieldDescriptor (T j).2.2.1 = some ty ∧ defaultValue ty = .null) := by
  unfold xkb at h
  split at h
  · rename_i r ks h1 h2
    cases h1.symm.trans hc
    rw [Bool.and_eq_true] at h
    refine ⟨ks, h2, Nat.eq_of_beq_eq_true h.1, fun j hj => ?_⟩
    have := List.all_eq_true.mp h.2 j (List.mem_range.mpr hj)
    split at this
    · rename_i e1 e2
      exact Or.inl ⟨e1, e2⟩
    · rename_i e1 e2
      exact Or.inr ⟨e1, _, e2, rfl⟩
    · rename_i e1 e2
      exact Or.inr ⟨e1, _, e2, rfl⟩
    · cases this
  · cases h
/-- a throw: the class's number, its entry, the text's entry, the constructor's entry, the text -/
abbrev xTh : Type := Nat × Nat × Nat × Nat × String
def xthok (q : xTh) : Bool := match xexN[q.1]? with
  | some X => decide (Cond.classLink "WasmCore" q.2.1 X ∈ lw_tbl) && decide (Cond.instantiable X 6 ∈ lw_tbl) && decide (Cond.initialized X ∈ lw_tbl) && decide (Cond.stringRef "WasmCore" q.2.2.1 q.2.2.2.2 ∈ lw_tbl) && (Bundle.ownAtoms "WasmCore" q.2.2.2.1 X xsup).all (fun w => decide (w ∈ lw_tbl) || decide (w = xst1w) || decide (w = xst2w))
  | none => false
def xthl : List xTh := [(0, 61, 63, 65, "n is not 1 .. 8"), (0, 61, 90, 65, "a number of the function is not as said"), (0, 61, 140, 65, "not as many arguments as parameters"), (1, 72, 74, 76, "not open, or no room for the words"), (1, 72, 84, 76, "not open, or no room for the word"), (1, 72, 99, 76, "not open, too many functions, or no word for a body"), (1, 72, 108, 76, "not open, no function, or words that are no body"), (1, 72, 127, 76, "not checked, or a run goes on"), (1, 72, 152, 76, "no run is done"), (2, 132, 134, 136, "no such function"), (2, 132, 173, 136, "no such value")]
theorem xthl_ok : xthl.all xthok = true := by decide +kernel
def xthb (M : xM) (pc ix dat : Nat) : Bool := decide (M.1 = "WasmCore") && M.2.2.2.2.2.2.isEmpty && xthl.any (fun q => Nat.beq q.1 (dat - 100) && Nat.beq q.2.1 ix && decide (decode M.2.2.1 (pc + 3) = .ok (.dup, 1)) && decide (decode M.2.2.1 (pc + 4) = .ok (.ldc q.2.2.1, 2)) && decide (decode M.2.2.1 (pc + 6) = .ok (.invokespecial q.2.2.2.1, 3)) && decide (decode M.2.2.1 (pc + 9) = .ok (.athrow, 1)))
theorem xthb_ok {M : xM} {pc ix dat : Nat} (h : xthb M pc ix dat = true) : xThr M pc ix dat := by
  unfold xthb at h
  rw [Bool.and_eq_true, Bool.and_eq_true, decide_eq_true_eq] at h
  obtain ⟨⟨h0, hem⟩, h⟩ := h
  obtain ⟨q, hq, h⟩ := List.any_eq_true.mp h
  have h2 := List.all_eq_true.mp xthl_ok q hq
  simp only [Bool.and_eq_true, decide_eq_true_eq] at h
  obtain ⟨⟨⟨⟨⟨h3, h4⟩, h5⟩, h6⟩, h7⟩, h8⟩ := h
  obtain ⟨k, ix', sx, ic, tx⟩ := q
  dsimp only at h3 h4 h5 h6 h7 h8
  unfold xthok at h2
  split at h2
  · rename_i X hX
    simp only [Bool.and_eq_true, decide_eq_true_eq] at h2
    obtain ⟨⟨⟨⟨g1, g2⟩, g3⟩, g4⟩, g5⟩ := h2
    cases Nat.eq_of_beq_eq_true h4
    refine ⟨X, sx, tx, ic, by rw [← Nat.eq_of_beq_eq_true h3]; exact hX, h5, h6, h7, h8, ?_, List.mem_filter.mpr ⟨g2, rfl⟩, List.mem_filter.mpr ⟨g3, rfl⟩, ?_, fun w hw => ?_, List.isEmpty_iff.mp hem⟩
    · rw [h0]; exact List.mem_filter.mpr ⟨g1, rfl⟩
    · rw [h0]; exact g4
    · rw [h0] at hw
      have := List.all_eq_true.mp g5 w hw
      simp only [Bool.or_eq_true, decide_eq_true_eq] at this
      rcases this with (h | h) | h
      · exact Or.inl h
      · exact Or.inr (Or.inl h)
      · exact Or.inr (Or.inr h)
  · cases h2
/-- a row of a method's table -/
def xokb (L : List xLk) (M : xM) (pc : Nat) (i : xC) : Bool := decide (decode M.2.2.1 pc = .ok (i.1, xln i.1 i.2.1)) && match i.1 with
  | .bipush n => decide ((Int8.ofInt n).toInt32 = Int32.ofInt n)
  | .sipush n => decide ((Int16.ofInt n).toInt32 = Int32.ofInt n)
  | .ldc k => xlin L 5 k i.2.2
  | .ldc_w k => xlin L 5 k i.2.2
  | .ldc2_w k => xlin L 6 k i.2.2
  | .goto off => decide ((pc : Int) + off = (i.2.2 : Int))
  | .ifCond _ off => decide ((pc : Int) + off = (i.2.2 : Int))
  | .if_icmp _ off => decide ((pc : Int) + off = (i.2.2 : Int))
  | .tableswitch dflt lo hi offs => decide (0 ≤ (pc : Int) + dflt) && offs.toList.all (fun o => decide (0 ≤ (pc : Int) + o)) && decide (hi - lo < offs.size)
  | .lookupswitch dflt ps => (ps.toList.zip (ps.toList.drop 1)).all (fun (a, next) => a.1 < next.1) && decide (0 ≤ (pc : Int) + dflt) && ps.toList.all (fun o => decide (0 ≤ (pc : Int) + o.2))
  | .getfield k => xlin L 0 k i.2.2
  | .putfield k => xlin L 0 k i.2.2 && (match xcl[i.2.2 / 64]? with
    | some r => (!(r.2.1 (i.2.2 % 64)).2.2.2 || (decide (M.2.1.name = "<init>") && decide ((r.2.1 (i.2.2 % 64)).1 = M.1))) && (match parseFieldDescriptor (r.2.1 (i.2.2 % 64)).2.2.1 with
      | some .int => Nat.beq i.2.1 0
      | some (.object _) => Nat.beq i.2.1 1
      | some (.array _) => Nat.beq i.2.1 1
      | _ => false)
    | none => false)
  | .newarray t => decide (Cond.arrayClass (newarray.typeOf t) ∈ xWS)
  | .new k => bif Nat.blt i.2.2 100 then (xlin L 9 k i.2.2 && xkb i.2.2) else xthb M pc k i.2.2
  | .invokestatic k => bif Nat.beq i.2.2 14421 then xlin L 7 k i.2.2 else xlin L 1 k i.2.2
  | .invokevirtual k => xlin L 2 k i.2.2
  | .invokespecial k => bif Nat.beq i.2.2 14401 then xlin L 8 k i.2.2 else (xlin L 3 k i.2.2 || xlin L 4 k i.2.2)
  | .ireturn => decide (M.2.2.2.2.1 = if i.2.2 = 0 then some .int else some .boolean)
  | .lreturn => decide (M.2.2.2.2.1 = some .long)
  | .return_ => decide (M.2.2.2.2.1 = none)
  | _ => true
set_option maxHeartbeats 4000000 in
theorem xokb_ok {L : List xLk} {M : xM} (hL : L.all (xlok M.1) = true) {pc : Nat} {i : xC} (h : xokb L M pc i = true) : xOK M pc i := by
  unfold xokb at h
  rw [Bool.and_eq_true, decide_eq_true_eq] at h
  obtain ⟨hd, h⟩ := h
  refine ⟨hd, ?_⟩
  clear hd
  obtain ⟨ins, mk, dat⟩ := i
  cases ins with
  | bipush n => exact of_decide_eq_true h
  | sipush n => exact of_decide_eq_true h
  | ldc k =>
    obtain ⟨a, b, c, h⟩ := xlin_ok hL h
    exact xmem a (of_decide_eq_true (p := lw_tbl[a]? = some _) h) rfl
  | ldc_w k =>
    obtain ⟨a, b, c, h⟩ := xlin_ok hL h
    exact xmem a (of_decide_eq_true (p := lw_tbl[a]? = some _) h) rfl
  | ldc2_w k =>
    obtain ⟨a, b, c, h⟩ := xlin_ok hL h
    exact xmem a (of_decide_eq_true (p := lw_tbl[a]? = some _) h) rfl
  | goto off => exact of_decide_eq_true h
  | ifCond c off => exact of_decide_eq_true h
  | if_icmp c off => exact of_decide_eq_true h
  | tableswitch dflt lo hi offs =>
    dsimp only at h ⊢
    simp only [Bool.and_eq_true, decide_eq_true_eq] at h
    exact ⟨h.1.1, fun o ho => of_decide_eq_true (List.all_eq_true.mp h.1.2 o ho), h.2⟩
  | lookupswitch dflt ps =>
    dsimp only at h ⊢
    rw [Bool.and_eq_true, Bool.and_eq_true, decide_eq_true_eq] at h
    exact ⟨h.1.1, h.1.2, fun o ho => of_decide_eq_true (List.all_eq_true.mp h.2 o ho)⟩
  | getfield k =>
    obtain ⟨a, b, c, h⟩ := xlin_ok hL h
    exact xl0 h
  | putfield k =>
    dsimp only at h ⊢
    rw [Bool.and_eq_true] at h
    obtain ⟨h1, h2⟩ := h
    obtain ⟨a, b, c, h1⟩ := xlin_ok hL h1
    refine ⟨xl0 h1, fun C T N hc => ?_⟩
    rw [hc] at h2
    dsimp only at h2
    rw [Bool.and_eq_true] at h2
    obtain ⟨h2, h3⟩ := h2
    refine ⟨fun hf => ?_, ?_⟩
    · rw [hf] at h2
      simp only [Bool.not_true, Bool.false_or, Bool.and_eq_true, decide_eq_true_eq] at h2
      exact h2
    · split at h3
      · rename_i e
        have h3 := Nat.eq_of_beq_eq_true h3
        exact ⟨_, e, fun _ => rfl, fun z => by rw [h3] at z; cases z⟩
      · rename_i n e
        have h3 := Nat.eq_of_beq_eq_true h3
        exact ⟨_, e, fun z => (by rw [h3] at z; cases z), fun _ => Or.inl ⟨_, rfl⟩⟩
      · rename_i n e
        have h3 := Nat.eq_of_beq_eq_true h3
        exact ⟨_, e, fun z => (by rw [h3] at z; cases z), fun _ => Or.inr ⟨_, rfl⟩⟩
      · cases h3
  | newarray t => exact of_decide_eq_true h
  | new k =>
    dsimp only at h ⊢
    refine ⟨fun hge => ?_, fun hlt => ?_⟩
    · have hz : Nat.blt dat 100 = false := by
        cases hq : Nat.blt dat 100 with
        | true => have := Nat.blt_eq.mp hq; omega
        | false => rfl
      rw [hz] at h
      exact xthb_ok h
    rw [Nat.blt_eq.mpr hlt] at h
    dsimp only [cond] at h
    rw [Bool.and_eq_true] at h
    obtain ⟨a, b, c, h1⟩ := xlin_ok hL h.1
    obtain ⟨C, T, N, h2, h3, h4, h5⟩ := xl9 h1
    exact ⟨C, T, N, h2, h3, h4, h5, xkb_ok h.2 h2⟩
  | invokestatic k =>
    dsimp only at h ⊢
    by_cases hd : dat = 14421
    · subst hd
      rw [if_pos rfl]
      obtain ⟨a, b, c, h⟩ := xlin_ok hL h
      exact xmem a (of_decide_eq_true (p := lw_tbl[a]? = some _) h) rfl
    · rw [if_neg hd]
      have : Nat.beq dat 14421 = false := by
        cases hq : Nat.beq dat 14421 with
        | true => exact absurd (Nat.eq_of_beq_eq_true hq) hd
        | false => rfl
      rw [this] at h
      obtain ⟨a, b, c, h⟩ := xlin_ok hL h
      exact xl1 h
  | invokevirtual k =>
    obtain ⟨a, b, c, h⟩ := xlin_ok hL h
    exact xl2 h
  | invokespecial k =>
    dsimp only at h ⊢
    by_cases hd : dat = 14401
    · subst hd
      rw [if_pos rfl]
      obtain ⟨a, b, c, h⟩ := xlin_ok hL h
      exact xmem a (of_decide_eq_true (p := lw_tbl[a]? = some _) h) rfl
    · rw [if_neg hd]
      have : Nat.beq dat 14401 = false := by
        cases hq : Nat.beq dat 14401 with
        | true => exact absurd (Nat.eq_of_beq_eq_true hq) hd
        | false => rfl
      rw [this] at h
      dsimp only [cond] at h
      rw [Bool.or_eq_true] at h
      rcases h with h | h
      · obtain ⟨a, b, c, h⟩ := xlin_ok hL h
        exact xl3 h
      · obtain ⟨a, b, c, h⟩ := xlin_ok hL h
        exact xl4 h
  | ireturn => exact of_decide_eq_true h
  | lreturn => exact of_decide_eq_true h
  | return_ => exact of_decide_eq_true h
  | _ => trivial
theorem xat_mem {t : List (Nat × xC)} {pc : Nat} {i : xC} (h : xat t pc = some i) : (pc, i) ∈ t := by
  induction t with
  | nil => cases h
  | cons a r ih =>
    obtain ⟨q, j⟩ := a
    unfold xat at h
    cases hq : Nat.beq q pc with
    | true =>
      rw [hq] at h
      cases h
      cases Nat.eq_of_beq_eq_true hq
      exact List.mem_cons_self
    | false =>
      rw [hq] at h
      exact List.mem_cons_of_mem _ (ih h)
theorem xtab_ok {L : List xLk} {M : xM} (hL : L.all (xlok M.1) = true) (hT : M.2.2.2.2.2.1.all (fun q => xokb L M q.1 q.2) = true) : ∀ pc i, xat M.2.2.2.2.2.1 pc = some i → xOK M pc i := fun pc i h => xokb_ok hL (List.all_eq_true.mp hT (pc, i) (xat_mem h))
def xmkb (M : xM) (a b : Nat) : Bool := decide (lw_tbl[a]? = some (.initialized M.2.1.cls)) && (bif M.2.2.2.2.2.2.isEmpty then decide (lw_tbl[b]? = some (.code M.2.1 M.2.2.1 M.2.2.2.1 M.2.2.2.2.1)) else decide (lw_tbl[b]? = some (.codeWith M.2.1 M.2.2.1 M.2.2.2.1 M.2.2.2.2.1 (M.2.2.2.2.2.2.map fun h => (h.1, h.2.1, h.2.2.1, h.2.2.2.1))))) &&
  plainName M.2.1.cls && Nat.ble M.2.2.2.1 16 && decide (M.2.1.cls ≠ "java/lang/invoke/MethodHandle") && decide (M.2.1.cls ≠ "java/lang/invoke/VarHandle") && decide (M.1 = M.2.1.cls) && M.2.2.2.2.2.2.all (fun h => Nat.blt 0 h.2.2.2.1 && match xexN[h.2.2.2.2]? with
    | some X => decide (Cond.classLink M.1 h.2.2.2.1 X ∈ lw_tbl)
    | none => false)
theorem xmk {L : List xLk} {M : xM} (hL : L.all (xlok M.1) = true) (hT : M.2.2.2.2.2.1.all (fun q => xokb L M q.1 q.2) = true) (a b : Nat) (h : xmkb M a b = true) : xMok M := by
  unfold xmkb at h
  simp only [Bool.and_eq_true, decide_eq_true_eq] at h
  obtain ⟨⟨⟨⟨⟨⟨⟨h1, h2⟩, h3⟩, h4⟩, h5⟩, h6⟩, h7⟩, h8⟩ := h
  refine ⟨xmem a h1 rfl, fun hh => ?_, h3, Nat.le_of_ble_eq_true h4, ⟨h5, h6⟩, h7, xtab_ok hL hT, fun hh => ?_, fun h hm => ?_⟩
  · rw [hh] at h2
    exact xmem b (of_decide_eq_true h2) rfl
  · have : M.2.2.2.2.2.2.isEmpty = false := by
      cases hq : M.2.2.2.2.2.2.isEmpty with
      | true => exact absurd (List.isEmpty_iff.mp hq) hh
      | false => rfl
    rw [this] at h2
    exact xmem b (of_decide_eq_true h2) rfl
  · have h9 := List.all_eq_true.mp h8 h hm
    rw [Bool.and_eq_true] at h9
    refine ⟨fun z => (by rw [z] at h9; exact absurd h9.1 (by decide)), ?_⟩
    have h9 := h9.2
    split at h9
    · rename_i X hX
      exact ⟨X, hX, List.mem_filter.mpr ⟨of_decide_eq_true h9, rfl⟩⟩
    · cases h9
end
section
/-! Links: what the tables have of the entries; every row of the methods tables. -/
/-- WasmCore -/
def xlk_0 : List xLk := [
  (0, 13, 0, 270, 0, 0),
  (0, 19, 2, 272, 0, 0),
  (0, 28, 1, 271, 0, 0),
  (0, 37, 3, 273, 0, 0),
  (0, 41, 4, 274, 0, 0),
  (0, 45, 5, 275, 0, 0),
  (0, 49, 6, 276, 0, 0),
  (0, 52, 7, 277, 0, 0),
  (0, 55, 8, 278, 0, 0),
  (0, 58, 9, 279, 0, 0),
  (0, 81, 65, 106, 0, 0),
  (0, 105, 66, 109, 0, 0),
  (0, 114, 138, 192, 0, 0),
  (0, 117, 139, 194, 0, 0),
  (0, 137, 68, 115, 0, 0),
  (0, 154, 262, 238, 0, 0),
  (0, 157, 261, 236, 0, 0),
  (0, 160, 260, 234, 0, 0),
  (0, 163, 263, 240, 0, 0),
  (0, 166, 193, 167, 0, 0),
  (0, 175, 259, 232, 0, 0),
  (0, 181, 258, 230, 0, 0),
  (1, 86, 1123, 639, 640, 0),
  (2, 68, 17026, 600, 601, 602),
  (2, 77, 17042, 620, 621, 622),
  (2, 92, 17137, 643, 644, 645),
  (2, 96, 17153, 647, 648, 649),
  (2, 101, 17172, 653, 654, 655),
  (2, 110, 33217, 665, 666, 667),
  (2, 120, 16113, 309, 310, 311),
  (2, 123, 48129, 313, 314, 315),
  (2, 126, 64161, 320, 321, 322),
  (2, 129, 17362, 768, 704, 705),
  (2, 142, 65619, 786, 787, 788),
  (2, 146, 64225, 335, 336, 337),
  (2, 149, 914, 501, 503, 17),
  (2, 169, 1698, 805, 807, 38),
  (2, 178, 65730, 814, 815, 816),
  (2, 184, 48643, 517, 437, 438),
  (2, 188, 48691, 518, 449, 450),
  (2, 192, 48660, 523, 441, 442),
  (2, 196, 65713, 809, 810, 811),
  (3, 25, 50, 177, 178, 0),
  (3, 34, 67, 223, 224, 0),
  (4, 9, 17, 98, 99, 0),
  (4, 12, 33, 161, 162, 0),
  (8, 1, 14401, 93, 0, 0),
  (9, 7, 1, 96, 97, 72),
  (9, 10, 3, 159, 160, 73),
  (9, 23, 2, 175, 176, 74),
  (9, 32, 4, 221, 222, 75)]
theorem xlk_0_ok : xlk_0.all (xlok "WasmCore") = true := by decide +kernel
/-- WasmCore$Checker -/
def xlk_1 : List xLk := [
  (0, 11, 129, 182, 0, 0),
  (0, 15, 130, 183, 0, 0),
  (0, 18, 131, 184, 0, 0),
  (0, 21, 132, 185, 0, 0),
  (0, 25, 133, 186, 0, 0),
  (0, 28, 134, 187, 0, 0),
  (0, 32, 135, 188, 0, 0),
  (0, 35, 136, 189, 0, 0),
  (0, 38, 137, 190, 0, 0),
  (0, 41, 138, 191, 0, 0),
  (0, 44, 139, 193, 0, 0),
  (0, 47, 128, 181, 0, 0),
  (0, 51, 66, 108, 0, 0),
  (0, 64, 67, 111, 0, 0),
  (0, 66, 70, 121, 0, 0),
  (0, 73, 64, 103, 0, 0),
  (0, 111, 69, 119, 0, 0),
  (0, 116, 74, 133, 0, 0),
  (0, 141, 68, 116, 0, 0),
  (0, 153, 72, 128, 0, 0),
  (0, 162, 71, 125, 0, 0),
  (0, 165, 73, 131, 0, 0),
  (1, 76, 257, 682, 344, 0),
  (1, 144, 1553, 751, 752, 0),
  (1, 147, 1569, 755, 756, 0),
  (2, 56, 33234, 669, 671, 19),
  (2, 60, 16498, 673, 401, 402),
  (2, 69, 33252, 674, 676, 20),
  (2, 81, 33282, 683, 685, 22),
  (2, 84, 33378, 707, 709, 27),
  (2, 87, 16242, 758, 340, 341),
  (2, 90, 33266, 678, 680, 21),
  (2, 93, 33297, 687, 689, 23),
  (2, 97, 33314, 691, 693, 24),
  (2, 100, 33330, 695, 697, 25),
  (2, 103, 33347, 699, 701, 26),
  (2, 107, 17362, 703, 704, 705),
  (2, 119, 33393, 711, 713, 28),
  (2, 122, 33410, 715, 717, 29),
  (2, 125, 33425, 719, 721, 30),
  (2, 128, 33457, 727, 729, 32),
  (2, 131, 33506, 739, 741, 35),
  (2, 134, 33523, 743, 745, 36),
  (2, 138, 33538, 747, 749, 37),
  (2, 150, 33442, 723, 725, 31),
  (2, 156, 33474, 731, 733, 33),
  (2, 159, 33490, 735, 737, 34),
  (8, 3, 14401, 180, 0, 0)]
theorem xlk_1_ok : xlk_1.all (xlok "WasmCore$Checker") = true := by decide +kernel
/-- WasmCore$Code -/
def xlk_2 : List xLk := [
  (0, 9, 64, 102, 0, 0),
  (0, 13, 65, 105, 0, 0),
  (0, 17, 66, 107, 0, 0),
  (0, 20, 67, 110, 0, 0),
  (0, 23, 68, 113, 0, 0),
  (0, 26, 69, 117, 0, 0),
  (0, 29, 70, 120, 0, 0),
  (0, 32, 71, 123, 0, 0),
  (0, 35, 72, 126, 0, 0),
  (0, 38, 73, 129, 0, 0),
  (0, 41, 74, 132, 0, 0),
  (1, 48, 257, 343, 344, 0),
  (2, 44, 16498, 651, 401, 402),
  (8, 1, 14401, 101, 0, 0)]
theorem xlk_2_ok : xlk_2.all (xlok "WasmCore$Code") = true := by decide +kernel
/-- WasmCore$Machine -/
def xlk_3 : List xLk := [
  (0, 13, 258, 229, 0, 0),
  (0, 17, 259, 231, 0, 0),
  (0, 20, 260, 233, 0, 0),
  (0, 24, 261, 235, 0, 0),
  (0, 27, 262, 237, 0, 0),
  (0, 30, 263, 239, 0, 0),
  (0, 33, 264, 241, 0, 0),
  (0, 36, 265, 242, 0, 0),
  (0, 39, 266, 243, 0, 0),
  (0, 42, 267, 244, 0, 0),
  (0, 45, 256, 227, 0, 0),
  (0, 49, 257, 228, 0, 0),
  (0, 59, 68, 114, 0, 0),
  (0, 72, 69, 118, 0, 0),
  (0, 78, 64, 104, 0, 0),
  (0, 109, 71, 124, 0, 0),
  (0, 112, 67, 112, 0, 0),
  (0, 124, 72, 127, 0, 0),
  (0, 132, 74, 134, 0, 0),
  (0, 135, 73, 130, 0, 0),
  (0, 148, 70, 122, 0, 0),
  (0, 154, 193, 168, 0, 0),
  (1, 53, 178, 324, 325, 0),
  (1, 121, 386, 373, 374, 0),
  (1, 127, 402, 376, 377, 0),
  (1, 142, 468, 391, 392, 0),
  (1, 162, 593, 425, 426, 0),
  (1, 171, 625, 432, 433, 0),
  (1, 186, 721, 456, 457, 0),
  (1, 190, 738, 459, 460, 0),
  (1, 195, 801, 475, 476, 0),
  (1, 202, 867, 491, 492, 0),
  (1, 205, 899, 498, 499, 0),
  (1, 212, 835, 483, 484, 0),
  (2, 68, 64434, 383, 385, 6),
  (2, 75, 64450, 387, 389, 7),
  (2, 81, 16242, 339, 340, 341),
  (2, 86, 64291, 349, 351, 0),
  (2, 90, 64515, 404, 406, 8),
  (2, 93, 64563, 416, 418, 11),
  (2, 96, 64546, 412, 414, 10),
  (2, 99, 64706, 452, 454, 14),
  (2, 102, 64305, 353, 355, 1),
  (2, 106, 64322, 357, 359, 2),
  (2, 115, 64337, 361, 363, 3),
  (2, 118, 64370, 369, 371, 5),
  (2, 138, 64355, 365, 367, 4),
  (2, 145, 16498, 400, 401, 402),
  (2, 151, 64529, 408, 410, 9),
  (2, 159, 48578, 420, 421, 422),
  (2, 165, 64611, 428, 430, 12),
  (2, 168, 64675, 444, 446, 13),
  (2, 175, 48643, 436, 437, 438),
  (2, 179, 48660, 440, 441, 442),
  (2, 183, 48691, 448, 449, 450),
  (2, 198, 64820, 478, 480, 15),
  (2, 208, 64850, 487, 489, 16),
  (5, 211, 2147483648, 482, 0, 0),
  (7, 62, 14421, 397, 0, 0),
  (8, 5, 14401, 226, 0, 0)]
theorem xlk_3_ok : xlk_3.all (xlok "WasmCore$Machine") = true := by decide +kernel
/-- WasmCore$Memory -/
def xlk_4 : List xLk := [
  (0, 9, 192, 165, 0, 0),
  (0, 13, 193, 166, 0, 0),
  (1, 17, 146, 317, 318, 0),
  (1, 23, 402, 424, 377, 0),
  (8, 1, 14401, 164, 0, 0)]
theorem xlk_4_ok : xlk_4.all (xlok "WasmCore$Memory") = true := by decide +kernel
/-- WasmCore$Numbers -/
def xlk_5 : List xLk := [
  (1, 7, 753, 462, 463, 0),
  (1, 13, 769, 466, 467, 0),
  (1, 16, 785, 469, 470, 0),
  (1, 19, 883, 494, 495, 0),
  (1, 25, 402, 497, 377, 0),
  (1, 29, 625, 486, 433, 0)]
theorem xlk_5_ok : xlk_5.all (xlok "WasmCore$Numbers") = true := by decide +kernel
/-- WasmCore$Op -/
def xlk_6 : List xLk := [
  (1, 9, 273, 346, 347, 0),
  (1, 13, 721, 754, 457, 0)]
theorem xlk_6_ok : xlk_6.all (xlok "WasmCore$Op") = true := by decide +kernel
/-- WasmCoreLaw -/
def xlk_7 : List xLk := [
  (1, 48, 996, 524, 525, 0),
  (1, 57, 1059, 624, 625, 0),
  (1, 61, 1093, 632, 633, 0),
  (1, 65, 1186, 657, 658, 0),
  (1, 81, 1586, 759, 760, 0),
  (1, 94, 1634, 790, 791, 0),
  (1, 101, 1668, 798, 799, 0),
  (2, 7, 1011, 529, 530, 531),
  (2, 17, 1074, 627, 628, 629),
  (2, 21, 1108, 635, 636, 637),
  (2, 25, 1201, 660, 661, 662),
  (2, 29, 1602, 763, 764, 765),
  (2, 35, 1649, 793, 794, 795),
  (2, 38, 1683, 801, 802, 803),
  (2, 53, 81779, 952, 953, 954),
  (2, 54, 81761, 948, 949, 950),
  (2, 60, 81794, 956, 957, 958),
  (2, 64, 81812, 960, 961, 962),
  (2, 68, 81841, 968, 969, 970),
  (2, 69, 82, 301, 302, 303),
  (2, 72, 82178, 1048, 1049, 1050),
  (2, 73, 97, 305, 306, 307),
  (2, 76, 81825, 964, 965, 966),
  (2, 77, 194, 327, 328, 329),
  (2, 80, 82194, 1052, 1053, 1054),
  (2, 84, 82210, 1056, 1057, 1058),
  (2, 85, 210, 331, 332, 333),
  (2, 88, 82242, 1064, 1065, 1066),
  (2, 89, 929, 505, 506, 507),
  (2, 93, 82609, 1150, 1151, 1152),
  (2, 96, 82625, 1154, 1155, 1156),
  (2, 97, 946, 509, 510, 511),
  (2, 100, 82642, 1158, 1159, 1160),
  (2, 104, 82659, 1162, 1163, 1164),
  (2, 105, 962, 513, 514, 515),
  (2, 108, 82674, 1166, 1167, 1168),
  (2, 109, 979, 519, 520, 521),
  (2, 113, 82691, 1170, 1171, 1172),
  (3, 42, 1, 90, 91, 0),
  (3, 45, 1745, 820, 821, 0),
  (6, 46, 4294967295, 1174, 0, 0),
  (9, 8, 0, 88, 89, 71),
  (9, 43, 5, 818, 819, 76)]
theorem xlk_7_ok : xlk_7.all (xlok "WasmCoreLaw") = true := by decide +kernel
/-- WasmCoreModel -/
def xlk_8 : List xLk := [
  (0, 7, 323, 827, 0, 0),
  (0, 13, 325, 829, 0, 0),
  (0, 16, 326, 830, 0, 0),
  (0, 19, 327, 831, 0, 0),
  (0, 22, 328, 832, 0, 0),
  (0, 25, 329, 833, 0, 0),
  (0, 29, 330, 834, 0, 0),
  (0, 32, 332, 836, 0, 0),
  (0, 35, 333, 837, 0, 0),
  (0, 38, 334, 838, 0, 0),
  (0, 41, 335, 839, 0, 0),
  (0, 44, 336, 840, 0, 0),
  (0, 47, 337, 841, 0, 0),
  (0, 50, 338, 842, 0, 0),
  (0, 53, 339, 843, 0, 0),
  (0, 57, 340, 844, 0, 0),
  (0, 60, 341, 845, 0, 0),
  (0, 63, 346, 850, 0, 0),
  (0, 66, 347, 851, 0, 0),
  (0, 69, 348, 852, 0, 0),
  (0, 72, 350, 854, 0, 0),
  (0, 75, 354, 858, 0, 0),
  (0, 78, 356, 860, 0, 0),
  (0, 81, 357, 861, 0, 0),
  (0, 84, 358, 862, 0, 0),
  (0, 87, 359, 863, 0, 0),
  (0, 90, 320, 824, 0, 0),
  (0, 93, 321, 825, 0, 0),
  (0, 96, 322, 826, 0, 0),
  (0, 99, 324, 828, 0, 0),
  (0, 102, 349, 853, 0, 0),
  (0, 105, 345, 849, 0, 0),
  (0, 108, 344, 848, 0, 0),
  (0, 111, 342, 846, 0, 0),
  (0, 118, 331, 835, 0, 0),
  (0, 121, 343, 847, 0, 0),
  (0, 187, 355, 859, 0, 0),
  (0, 190, 353, 857, 0, 0),
  (0, 193, 352, 856, 0, 0),
  (0, 196, 351, 855, 0, 0),
  (0, 205, 360, 864, 0, 0),
  (1, 124, 1937, 991, 992, 0),
  (1, 128, 1921, 988, 989, 0),
  (1, 169, 2129, 1038, 1039, 0),
  (1, 172, 2145, 1041, 1042, 0),
  (1, 212, 2482, 1122, 1123, 0),
  (1, 218, 2337, 1088, 1089, 0),
  (1, 221, 2289, 1077, 1078, 0),
  (1, 224, 2305, 1080, 1081, 0),
  (1, 236, 2578, 1143, 1144, 0),
  (1, 242, 2467, 1119, 1120, 0),
  (1, 245, 2499, 1125, 1126, 0),
  (1, 249, 2515, 1128, 1129, 0),
  (2, 114, 81890, 980, 982, 41),
  (2, 132, 81956, 994, 996, 43),
  (2, 136, 81970, 998, 1000, 44),
  (2, 139, 82002, 1006, 1008, 46),
  (2, 142, 82050, 1018, 1020, 49),
  (2, 145, 82067, 1022, 1024, 50),
  (2, 149, 82082, 1026, 1028, 51),
  (2, 152, 82097, 1030, 1032, 52),
  (2, 155, 81876, 976, 978, 40),
  (2, 159, 82018, 1010, 1012, 47),
  (2, 162, 82035, 1014, 1016, 48),
  (2, 166, 82114, 1034, 1036, 53),
  (2, 175, 81907, 984, 986, 42),
  (2, 178, 81987, 1002, 1004, 45),
  (2, 181, 82162, 1044, 1046, 54),
  (2, 184, 81858, 972, 974, 39),
  (2, 199, 82227, 1060, 1062, 55),
  (2, 202, 82387, 1099, 1101, 61),
  (2, 208, 82369, 1095, 1097, 60),
  (2, 227, 82323, 1083, 1085, 58),
  (2, 230, 82546, 1135, 1137, 67),
  (2, 233, 82563, 1139, 1141, 68),
  (2, 239, 82451, 1115, 1117, 65),
  (2, 252, 82531, 1131, 1133, 66),
  (2, 255, 82595, 1146, 1148, 69),
  (2, 258, 82402, 1103, 1105, 62),
  (2, 261, 82417, 1107, 1109, 63),
  (2, 264, 82274, 1072, 1074, 57),
  (2, 267, 82355, 1091, 1093, 59),
  (2, 270, 82435, 1111, 1113, 64),
  (2, 273, 82257, 1068, 1070, 56),
  (5, 211, 2147483648, 1076, 0, 0),
  (6, 216, 4294967295, 1087, 0, 0),
  (8, 1, 14401, 823, 0, 0)]
theorem xlk_8_ok : xlk_8.all (xlok "WasmCoreModel") = true := by decide +kernel
/-- java/lang/Integer -/
def xlk_9 : List xLk := [
  (1, 259, 418, 380, 381, 0),
  (5, 127, 2147483648, 379, 0, 0),
  (5, 264, 65536, 465, 0, 0),
  (5, 265, 1431655765, 472, 0, 0),
  (5, 266, 858993459, 473, 0, 0),
  (5, 267, 252645135, 474, 0, 0),
  (6, 262, 4294967295, 435, 0, 0)]
theorem xlk_9_ok : xlk_9.all (xlok "java/lang/Integer") = true := by decide +kernel
/-- java/util/Arrays -/
def xlk_10 : List xLk := [
  (1, 13, 483, 394, 395, 0)]
theorem xlk_10_ok : xlk_10.all (xlok "java/util/Arrays") = true := by decide +kernel
end
section
/-! Rows of the methods. -/
theorem xtb_0 : M_0.2.2.2.2.2.1.all (fun q => xokb xlk_0 M_0 q.1 q.2) = true := by decide +kernel
theorem xmk_0 : xMok M_0 := xmk xlk_0_ok xtb_0 71 92 (by decide +kernel)
theorem xtb_1 : M_1.2.2.2.2.2.1.all (fun q => xokb xlk_2 M_1 q.1 q.2) = true := by decide +kernel
theorem xmk_1 : xMok M_1 := xmk xlk_2_ok xtb_1 72 100 (by decide +kernel)
theorem xtb_2 : M_2.2.2.2.2.2.1.all (fun q => xokb xlk_4 M_2 q.1 q.2) = true := by decide +kernel
theorem xmk_2 : xMok M_2 := xmk xlk_4_ok xtb_2 73 163 (by decide +kernel)
theorem xtb_3 : M_3.2.2.2.2.2.1.all (fun q => xokb xlk_1 M_3 q.1 q.2) = true := by decide +kernel
theorem xmk_3 : xMok M_3 := xmk xlk_1_ok xtb_3 74 179 (by decide +kernel)
theorem xtb_4 : M_4.2.2.2.2.2.1.all (fun q => xokb xlk_3 M_4 q.1 q.2) = true := by decide +kernel
theorem xmk_4 : xMok M_4 := xmk xlk_3_ok xtb_4 75 225 (by decide +kernel)
theorem xtb_5 : M_5.2.2.2.2.2.1.all (fun q => xokb xlk_0 M_5 q.1 q.2) = true := by decide +kernel
theorem xmk_5 : xMok M_5 := xmk xlk_0_ok xtb_5 71 304 (by decide +kernel)
theorem xtb_6 : M_6.2.2.2.2.2.1.all (fun q => xokb xlk_0 M_6 q.1 q.2) = true := by decide +kernel
theorem xmk_6 : xMok M_6 := xmk xlk_0_ok xtb_6 71 308 (by decide +kernel)
theorem xtb_7 : M_7.2.2.2.2.2.1.all (fun q => xokb xlk_2 M_7 q.1 q.2) = true := by decide +kernel
theorem xmk_7 : xMok M_7 := xmk xlk_2_ok xtb_7 72 312 (by decide +kernel)
theorem xtb_8 : M_8.2.2.2.2.2.1.all (fun q => xokb xlk_4 M_8 q.1 q.2) = true := by decide +kernel
theorem xmk_8 : xMok M_8 := xmk xlk_4_ok xtb_8 73 316 (by decide +kernel)
theorem xtb_9 : M_9.2.2.2.2.2.1.all (fun q => xokb xlk_10 M_9 q.1 q.2) = true := by decide +kernel
theorem xmk_9 : xMok M_9 := xmk xlk_10_ok xtb_9 83 319 (by decide +kernel)
theorem xtb_10 : M_10.2.2.2.2.2.1.all (fun q => xokb xlk_3 M_10 q.1 q.2) = true := by decide +kernel
theorem xmk_10 : xMok M_10 := xmk xlk_3_ok xtb_10 75 323 (by decide +kernel)
theorem xtb_11 : M_11.2.2.2.2.2.1.all (fun q => xokb xlk_10 M_11 q.1 q.2) = true := by decide +kernel
theorem xmk_11 : xMok M_11 := xmk xlk_10_ok xtb_11 83 326 (by decide +kernel)
theorem xtb_12 : M_12.2.2.2.2.2.1.all (fun q => xokb xlk_0 M_12 q.1 q.2) = true := by decide +kernel
theorem xmk_12 : xMok M_12 := xmk xlk_0_ok xtb_12 71 330 (by decide +kernel)
theorem xtb_13 : M_13.2.2.2.2.2.1.all (fun q => xokb xlk_0 M_13 q.1 q.2) = true := by decide +kernel
theorem xmk_13 : xMok M_13 := xmk xlk_0_ok xtb_13 71 334 (by decide +kernel)
theorem xtb_14 : M_14.2.2.2.2.2.1.all (fun q => xokb xlk_3 M_14 q.1 q.2) = true := by decide +kernel
theorem xmk_14 : xMok M_14 := xmk xlk_3_ok xtb_14 75 338 (by decide +kernel)
theorem xtb_15 : M_15.2.2.2.2.2.1.all (fun q => xokb xlk_2 M_15 q.1 q.2) = true := by decide +kernel
theorem xmk_15 : xMok M_15 := xmk xlk_2_ok xtb_15 72 342 (by decide +kernel)
theorem xtb_16 : M_16.2.2.2.2.2.1.all (fun q => xokb xlk_6 M_16 q.1 q.2) = true := by decide +kernel
theorem xmk_16 : xMok M_16 := xmk xlk_6_ok xtb_16 82 345 (by decide +kernel)
theorem xtb_17 : M_17.2.2.2.2.2.1.all (fun q => xokb xlk_6 M_17 q.1 q.2) = true := by decide +kernel
theorem xmk_17 : xMok M_17 := xmk xlk_6_ok xtb_17 82 348 (by decide +kernel)
theorem xtb_18 : M_18.2.2.2.2.2.1.all (fun q => xokb xlk_3 M_18 q.1 q.2) = true := by decide +kernel
theorem xmk_18 : xMok M_18 := xmk xlk_3_ok xtb_18 75 352 (by decide +kernel)
theorem xtb_19 : M_19.2.2.2.2.2.1.all (fun q => xokb xlk_3 M_19 q.1 q.2) = true := by decide +kernel
theorem xmk_19 : xMok M_19 := xmk xlk_3_ok xtb_19 75 356 (by decide +kernel)
theorem xtb_20 : M_20.2.2.2.2.2.1.all (fun q => xokb xlk_3 M_20 q.1 q.2) = true := by decide +kernel
theorem xmk_20 : xMok M_20 := xmk xlk_3_ok xtb_20 75 360 (by decide +kernel)
theorem xtb_21 : M_21.2.2.2.2.2.1.all (fun q => xokb xlk_3 M_21 q.1 q.2) = true := by decide +kernel
theorem xmk_21 : xMok M_21 := xmk xlk_3_ok xtb_21 75 364 (by decide +kernel)
theorem xtb_22 : M_22.2.2.2.2.2.1.all (fun q => xokb xlk_3 M_22 q.1 q.2) = true := by decide +kernel
theorem xmk_22 : xMok M_22 := xmk xlk_3_ok xtb_22 75 368 (by decide +kernel)
theorem xtb_23 : M_23.2.2.2.2.2.1.all (fun q => xokb xlk_3 M_23 q.1 q.2) = true := by decide +kernel
theorem xmk_23 : xMok M_23 := xmk xlk_3_ok xtb_23 75 372 (by decide +kernel)
end
section
/-! Rows of the methods. -/
theorem xtb_24 : M_24.2.2.2.2.2.1.all (fun q => xokb xlk_3 M_24 q.1 q.2) = true := by decide +kernel
theorem xmk_24 : xMok M_24 := xmk xlk_3_ok xtb_24 75 375 (by decide +kernel)
theorem xtb_25 : M_25.2.2.2.2.2.1.all (fun q => xokb xlk_9 M_25 q.1 q.2) = true := by decide +kernel
theorem xmk_25 : xMok M_25 := xmk xlk_9_ok xtb_25 86 378 (by decide +kernel)
theorem xtb_26 : M_26.2.2.2.2.2.1.all (fun q => xokb xlk_9 M_26 q.1 q.2) = true := by decide +kernel
theorem xmk_26 : xMok M_26 := xmk xlk_9_ok xtb_26 86 382 (by decide +kernel)
theorem xtb_27 : M_27.2.2.2.2.2.1.all (fun q => xokb xlk_3 M_27 q.1 q.2) = true := by decide +kernel
theorem xmk_27 : xMok M_27 := xmk xlk_3_ok xtb_27 75 386 (by decide +kernel)
theorem xtb_28 : M_28.2.2.2.2.2.1.all (fun q => xokb xlk_3 M_28 q.1 q.2) = true := by decide +kernel
theorem xmk_28 : xMok M_28 := xmk xlk_3_ok xtb_28 75 390 (by decide +kernel)
theorem xtb_29 : M_29.2.2.2.2.2.1.all (fun q => xokb xlk_10 M_29 q.1 q.2) = true := by decide +kernel
theorem xmk_29 : xMok M_29 := xmk xlk_10_ok xtb_29 83 393 (by decide +kernel)
theorem xtb_30 : M_30.2.2.2.2.2.1.all (fun q => xokb xlk_10 M_30 q.1 q.2) = true := by decide +kernel
theorem xmk_30 : xMok M_30 := xmk xlk_10_ok xtb_30 83 396 (by decide +kernel)
theorem xtb_31 : M_31.2.2.2.2.2.1.all (fun q => xokb xlk_2 M_31 q.1 q.2) = true := by decide +kernel
theorem xmk_31 : xMok M_31 := xmk xlk_2_ok xtb_31 72 403 (by decide +kernel)
theorem xtb_32 : M_32.2.2.2.2.2.1.all (fun q => xokb xlk_3 M_32 q.1 q.2) = true := by decide +kernel
theorem xmk_32 : xMok M_32 := xmk xlk_3_ok xtb_32 75 407 (by decide +kernel)
theorem xtb_33 : M_33.2.2.2.2.2.1.all (fun q => xokb xlk_3 M_33 q.1 q.2) = true := by decide +kernel
theorem xmk_33 : xMok M_33 := xmk xlk_3_ok xtb_33 75 411 (by decide +kernel)
theorem xtb_34 : M_34.2.2.2.2.2.1.all (fun q => xokb xlk_3 M_34 q.1 q.2) = true := by decide +kernel
theorem xmk_34 : xMok M_34 := xmk xlk_3_ok xtb_34 75 415 (by decide +kernel)
theorem xtb_35 : M_35.2.2.2.2.2.1.all (fun q => xokb xlk_3 M_35 q.1 q.2) = true := by decide +kernel
theorem xmk_35 : xMok M_35 := xmk xlk_3_ok xtb_35 75 419 (by decide +kernel)
theorem xtb_36 : M_36.2.2.2.2.2.1.all (fun q => xokb xlk_4 M_36 q.1 q.2) = true := by decide +kernel
theorem xmk_36 : xMok M_36 := xmk xlk_4_ok xtb_36 73 423 (by decide +kernel)
theorem xtb_37 : M_37.2.2.2.2.2.1.all (fun q => xokb xlk_6 M_37 q.1 q.2) = true := by decide +kernel
theorem xmk_37 : xMok M_37 := xmk xlk_6_ok xtb_37 82 427 (by decide +kernel)
theorem xtb_38 : M_38.2.2.2.2.2.1.all (fun q => xokb xlk_3 M_38 q.1 q.2) = true := by decide +kernel
theorem xmk_38 : xMok M_38 := xmk xlk_3_ok xtb_38 75 431 (by decide +kernel)
theorem xtb_39 : M_39.2.2.2.2.2.1.all (fun q => xokb xlk_9 M_39 q.1 q.2) = true := by decide +kernel
theorem xmk_39 : xMok M_39 := xmk xlk_9_ok xtb_39 86 434 (by decide +kernel)
theorem xtb_40 : M_40.2.2.2.2.2.1.all (fun q => xokb xlk_4 M_40 q.1 q.2) = true := by decide +kernel
theorem xmk_40 : xMok M_40 := xmk xlk_4_ok xtb_40 73 439 (by decide +kernel)
theorem xtb_41 : M_41.2.2.2.2.2.1.all (fun q => xokb xlk_4 M_41 q.1 q.2) = true := by decide +kernel
theorem xmk_41 : xMok M_41 := xmk xlk_4_ok xtb_41 73 443 (by decide +kernel)
theorem xtb_42 : M_42.2.2.2.2.2.1.all (fun q => xokb xlk_3 M_42 q.1 q.2) = true := by decide +kernel
theorem xmk_42 : xMok M_42 := xmk xlk_3_ok xtb_42 75 447 (by decide +kernel)
theorem xtb_43 : M_43.2.2.2.2.2.1.all (fun q => xokb xlk_4 M_43 q.1 q.2) = true := by decide +kernel
theorem xmk_43 : xMok M_43 := xmk xlk_4_ok xtb_43 73 451 (by decide +kernel)
theorem xtb_44 : M_44.2.2.2.2.2.1.all (fun q => xokb xlk_3 M_44 q.1 q.2) = true := by decide +kernel
theorem xmk_44 : xMok M_44 := xmk xlk_3_ok xtb_44 75 455 (by decide +kernel)
theorem xtb_45 : M_45.2.2.2.2.2.1.all (fun q => xokb xlk_6 M_45 q.1 q.2) = true := by decide +kernel
theorem xmk_45 : xMok M_45 := xmk xlk_6_ok xtb_45 82 458 (by decide +kernel)
theorem xtb_46 : M_46.2.2.2.2.2.1.all (fun q => xokb xlk_5 M_46 q.1 q.2) = true := by decide +kernel
theorem xmk_46 : xMok M_46 := xmk xlk_5_ok xtb_46 87 461 (by decide +kernel)
theorem xtb_47 : M_47.2.2.2.2.2.1.all (fun q => xokb xlk_9 M_47 q.1 q.2) = true := by decide +kernel
theorem xmk_47 : xMok M_47 := xmk xlk_9_ok xtb_47 86 464 (by decide +kernel)
theorem xtb_48 : M_48.2.2.2.2.2.1.all (fun q => xokb xlk_9 M_48 q.1 q.2) = true := by decide +kernel
theorem xmk_48 : xMok M_48 := xmk xlk_9_ok xtb_48 86 468 (by decide +kernel)
theorem xtb_49 : M_49.2.2.2.2.2.1.all (fun q => xokb xlk_9 M_49 q.1 q.2) = true := by decide +kernel
theorem xmk_49 : xMok M_49 := xmk xlk_9_ok xtb_49 86 471 (by decide +kernel)
end
section
/-! Rows of the methods. -/
theorem xtb_50 : M_50.2.2.2.2.2.1.all (fun q => xokb xlk_6 M_50 q.1 q.2) = true := by decide +kernel
theorem xmk_50 : xMok M_50 := xmk xlk_6_ok xtb_50 82 477 (by decide +kernel)
theorem xtb_51 : M_51.2.2.2.2.2.1.all (fun q => xokb xlk_3 M_51 q.1 q.2) = true := by decide +kernel
theorem xmk_51 : xMok M_51 := xmk xlk_3_ok xtb_51 75 481 (by decide +kernel)
theorem xtb_52 : M_52.2.2.2.2.2.1.all (fun q => xokb xlk_5 M_52 q.1 q.2) = true := by decide +kernel
theorem xmk_52 : xMok M_52 := xmk xlk_5_ok xtb_52 87 485 (by decide +kernel)
theorem xtb_53 : M_53.2.2.2.2.2.1.all (fun q => xokb xlk_3 M_53 q.1 q.2) = true := by decide +kernel
theorem xmk_53 : xMok M_53 := xmk xlk_3_ok xtb_53 75 490 (by decide +kernel)
theorem xtb_54 : M_54.2.2.2.2.2.1.all (fun q => xokb xlk_5 M_54 q.1 q.2) = true := by decide +kernel
theorem xmk_54 : xMok M_54 := xmk xlk_5_ok xtb_54 87 493 (by decide +kernel)
theorem xtb_55 : M_55.2.2.2.2.2.1.all (fun q => xokb xlk_5 M_55 q.1 q.2) = true := by decide +kernel
theorem xmk_55 : xMok M_55 := xmk xlk_5_ok xtb_55 87 496 (by decide +kernel)
theorem xtb_56 : M_56.2.2.2.2.2.1.all (fun q => xokb xlk_5 M_56 q.1 q.2) = true := by decide +kernel
theorem xmk_56 : xMok M_56 := xmk xlk_5_ok xtb_56 87 500 (by decide +kernel)
theorem xtb_57 : M_57.2.2.2.2.2.1.all (fun q => xokb xlk_0 M_57 q.1 q.2) = true := by decide +kernel
theorem xmk_57 : xMok M_57 := xmk xlk_0_ok xtb_57 71 504 (by decide +kernel)
theorem xtb_58 : M_58.2.2.2.2.2.1.all (fun q => xokb xlk_0 M_58 q.1 q.2) = true := by decide +kernel
theorem xmk_58 : xMok M_58 := xmk xlk_0_ok xtb_58 71 508 (by decide +kernel)
theorem xtb_59 : M_59.2.2.2.2.2.1.all (fun q => xokb xlk_0 M_59 q.1 q.2) = true := by decide +kernel
theorem xmk_59 : xMok M_59 := xmk xlk_0_ok xtb_59 71 512 (by decide +kernel)
theorem xtb_60 : M_60.2.2.2.2.2.1.all (fun q => xokb xlk_0 M_60 q.1 q.2) = true := by decide +kernel
theorem xmk_60 : xMok M_60 := xmk xlk_0_ok xtb_60 71 516 (by decide +kernel)
theorem xtb_61 : M_61.2.2.2.2.2.1.all (fun q => xokb xlk_0 M_61 q.1 q.2) = true := by decide +kernel
theorem xmk_61 : xMok M_61 := xmk xlk_0_ok xtb_61 71 522 (by decide +kernel)
theorem xtb_62 : M_62.2.2.2.2.2.1.all (fun q => xokb xlk_7 M_62 q.1 q.2) = true := by decide +kernel
theorem xmk_62 : xMok M_62 := xmk xlk_7_ok xtb_62 70 526 (by decide +kernel)
theorem xtb_63 : M_63.2.2.2.2.2.1.all (fun q => xokb xlk_0 M_63 q.1 q.2) = true := by decide +kernel
theorem xmk_63 : xMok M_63 := xmk xlk_0_ok xtb_63 71 532 (by decide +kernel)
theorem xtb_64 : M_64.2.2.2.2.2.1.all (fun q => xokb xlk_2 M_64 q.1 q.2) = true := by decide +kernel
theorem xmk_64 : xMok M_64 := xmk xlk_2_ok xtb_64 72 603 (by decide +kernel)
theorem xtb_65 : M_65.2.2.2.2.2.1.all (fun q => xokb xlk_2 M_65 q.1 q.2) = true := by decide +kernel
theorem xmk_65 : xMok M_65 := xmk xlk_2_ok xtb_65 72 623 (by decide +kernel)
theorem xtb_66 : M_66.2.2.2.2.2.1.all (fun q => xokb xlk_7 M_66 q.1 q.2) = true := by decide +kernel
theorem xmk_66 : xMok M_66 := xmk xlk_7_ok xtb_66 70 626 (by decide +kernel)
theorem xtb_67 : M_67.2.2.2.2.2.1.all (fun q => xokb xlk_0 M_67 q.1 q.2) = true := by decide +kernel
theorem xmk_67 : xMok M_67 := xmk xlk_0_ok xtb_67 71 630 (by decide +kernel)
theorem xtb_68 : M_68.2.2.2.2.2.1.all (fun q => xokb xlk_7 M_68 q.1 q.2) = true := by decide +kernel
theorem xmk_68 : xMok M_68 := xmk xlk_7_ok xtb_68 70 634 (by decide +kernel)
theorem xtb_69 : M_69.2.2.2.2.2.1.all (fun q => xokb xlk_0 M_69 q.1 q.2) = true := by decide +kernel
theorem xmk_69 : xMok M_69 := xmk xlk_0_ok xtb_69 71 638 (by decide +kernel)
theorem xtb_70 : M_70.2.2.2.2.2.1.all (fun q => xokb xlk_2 M_70 q.1 q.2) = true := by decide +kernel
theorem xmk_70 : xMok M_70 := xmk xlk_2_ok xtb_70 72 641 (by decide +kernel)
theorem xtb_71 : M_71.2.2.2.2.2.1.all (fun q => xokb xlk_2 M_71 q.1 q.2) = true := by decide +kernel
theorem xmk_71 : xMok M_71 := xmk xlk_2_ok xtb_71 72 646 (by decide +kernel)
theorem xtb_72 : M_72.2.2.2.2.2.1.all (fun q => xokb xlk_2 M_72 q.1 q.2) = true := by decide +kernel
theorem xmk_72 : xMok M_72 := xmk xlk_2_ok xtb_72 72 650 (by decide +kernel)
theorem xtb_73 : M_73.2.2.2.2.2.1.all (fun q => xokb xlk_2 M_73 q.1 q.2) = true := by decide +kernel
theorem xmk_73 : xMok M_73 := xmk xlk_2_ok xtb_73 72 656 (by decide +kernel)
theorem xtb_74 : M_74.2.2.2.2.2.1.all (fun q => xokb xlk_7 M_74 q.1 q.2) = true := by decide +kernel
theorem xmk_74 : xMok M_74 := xmk xlk_7_ok xtb_74 70 659 (by decide +kernel)
theorem xtb_75 : M_75.2.2.2.2.2.1.all (fun q => xokb xlk_0 M_75 q.1 q.2) = true := by decide +kernel
theorem xmk_75 : xMok M_75 := xmk xlk_0_ok xtb_75 71 663 (by decide +kernel)
theorem xtb_76 : M_76.2.2.2.2.2.1.all (fun q => xokb xlk_1 M_76 q.1 q.2) = true := by decide +kernel
theorem xmk_76 : xMok M_76 := xmk xlk_1_ok xtb_76 74 668 (by decide +kernel)
theorem xtb_77 : M_77.2.2.2.2.2.1.all (fun q => xokb xlk_1 M_77 q.1 q.2) = true := by decide +kernel
theorem xmk_77 : xMok M_77 := xmk xlk_1_ok xtb_77 74 672 (by decide +kernel)
end
section
/-! Rows of the methods. -/
theorem xtb_78 : M_78.2.2.2.2.2.1.all (fun q => xokb xlk_1 M_78 q.1 q.2) = true := by decide +kernel
theorem xmk_78 : xMok M_78 := xmk xlk_1_ok xtb_78 74 677 (by decide +kernel)
theorem xtb_79 : M_79.2.2.2.2.2.1.all (fun q => xokb xlk_1 M_79 q.1 q.2) = true := by decide +kernel
theorem xmk_79 : xMok M_79 := xmk xlk_1_ok xtb_79 74 681 (by decide +kernel)
theorem xtb_80 : M_80.2.2.2.2.2.1.all (fun q => xokb xlk_1 M_80 q.1 q.2) = true := by decide +kernel
theorem xmk_80 : xMok M_80 := xmk xlk_1_ok xtb_80 74 686 (by decide +kernel)
theorem xtb_81 : M_81.2.2.2.2.2.1.all (fun q => xokb xlk_1 M_81 q.1 q.2) = true := by decide +kernel
theorem xmk_81 : xMok M_81 := xmk xlk_1_ok xtb_81 74 690 (by decide +kernel)
theorem xtb_82 : M_82.2.2.2.2.2.1.all (fun q => xokb xlk_1 M_82 q.1 q.2) = true := by decide +kernel
theorem xmk_82 : xMok M_82 := xmk xlk_1_ok xtb_82 74 694 (by decide +kernel)
theorem xtb_83 : M_83.2.2.2.2.2.1.all (fun q => xokb xlk_1 M_83 q.1 q.2) = true := by decide +kernel
theorem xmk_83 : xMok M_83 := xmk xlk_1_ok xtb_83 74 698 (by decide +kernel)
theorem xtb_84 : M_84.2.2.2.2.2.1.all (fun q => xokb xlk_1 M_84 q.1 q.2) = true := by decide +kernel
theorem xmk_84 : xMok M_84 := xmk xlk_1_ok xtb_84 74 702 (by decide +kernel)
theorem xtb_85 : M_85.2.2.2.2.2.1.all (fun q => xokb xlk_2 M_85 q.1 q.2) = true := by decide +kernel
theorem xmk_85 : xMok M_85 := xmk xlk_2_ok xtb_85 72 706 (by decide +kernel)
theorem xtb_86 : M_86.2.2.2.2.2.1.all (fun q => xokb xlk_1 M_86 q.1 q.2) = true := by decide +kernel
theorem xmk_86 : xMok M_86 := xmk xlk_1_ok xtb_86 74 710 (by decide +kernel)
theorem xtb_87 : M_87.2.2.2.2.2.1.all (fun q => xokb xlk_1 M_87 q.1 q.2) = true := by decide +kernel
theorem xmk_87 : xMok M_87 := xmk xlk_1_ok xtb_87 74 714 (by decide +kernel)
theorem xtb_88 : M_88.2.2.2.2.2.1.all (fun q => xokb xlk_1 M_88 q.1 q.2) = true := by decide +kernel
theorem xmk_88 : xMok M_88 := xmk xlk_1_ok xtb_88 74 718 (by decide +kernel)
theorem xtb_89 : M_89.2.2.2.2.2.1.all (fun q => xokb xlk_1 M_89 q.1 q.2) = true := by decide +kernel
theorem xmk_89 : xMok M_89 := xmk xlk_1_ok xtb_89 74 722 (by decide +kernel)
theorem xtb_90 : M_90.2.2.2.2.2.1.all (fun q => xokb xlk_1 M_90 q.1 q.2) = true := by decide +kernel
theorem xmk_90 : xMok M_90 := xmk xlk_1_ok xtb_90 74 726 (by decide +kernel)
theorem xtb_91 : M_91.2.2.2.2.2.1.all (fun q => xokb xlk_1 M_91 q.1 q.2) = true := by decide +kernel
theorem xmk_91 : xMok M_91 := xmk xlk_1_ok xtb_91 74 730 (by decide +kernel)
theorem xtb_92 : M_92.2.2.2.2.2.1.all (fun q => xokb xlk_1 M_92 q.1 q.2) = true := by decide +kernel
theorem xmk_92 : xMok M_92 := xmk xlk_1_ok xtb_92 74 734 (by decide +kernel)
theorem xtb_93 : M_93.2.2.2.2.2.1.all (fun q => xokb xlk_1 M_93 q.1 q.2) = true := by decide +kernel
theorem xmk_93 : xMok M_93 := xmk xlk_1_ok xtb_93 74 738 (by decide +kernel)
theorem xtb_94 : M_94.2.2.2.2.2.1.all (fun q => xokb xlk_1 M_94 q.1 q.2) = true := by decide +kernel
theorem xmk_94 : xMok M_94 := xmk xlk_1_ok xtb_94 74 742 (by decide +kernel)
theorem xtb_95 : M_95.2.2.2.2.2.1.all (fun q => xokb xlk_1 M_95 q.1 q.2) = true := by decide +kernel
theorem xmk_95 : xMok M_95 := xmk xlk_1_ok xtb_95 74 746 (by decide +kernel)
theorem xtb_96 : M_96.2.2.2.2.2.1.all (fun q => xokb xlk_1 M_96 q.1 q.2) = true := by decide +kernel
theorem xmk_96 : xMok M_96 := xmk xlk_1_ok xtb_96 74 750 (by decide +kernel)
theorem xtb_97 : M_97.2.2.2.2.2.1.all (fun q => xokb xlk_6 M_97 q.1 q.2) = true := by decide +kernel
theorem xmk_97 : xMok M_97 := xmk xlk_6_ok xtb_97 82 753 (by decide +kernel)
theorem xtb_98 : M_98.2.2.2.2.2.1.all (fun q => xokb xlk_6 M_98 q.1 q.2) = true := by decide +kernel
theorem xmk_98 : xMok M_98 := xmk xlk_6_ok xtb_98 82 757 (by decide +kernel)
theorem xtb_99 : M_99.2.2.2.2.2.1.all (fun q => xokb xlk_7 M_99 q.1 q.2) = true := by decide +kernel
theorem xmk_99 : xMok M_99 := xmk xlk_7_ok xtb_99 70 761 (by decide +kernel)
theorem xtb_100 : M_100.2.2.2.2.2.1.all (fun q => xokb xlk_0 M_100 q.1 q.2) = true := by decide +kernel
theorem xmk_100 : xMok M_100 := xmk xlk_0_ok xtb_100 71 766 (by decide +kernel)
end
section
/-! Rows of the methods. -/
theorem xtb_101 : M_101.2.2.2.2.2.1.all (fun q => xokb xlk_3 M_101 q.1 q.2) = true := by decide +kernel
theorem xmk_101 : xMok M_101 := xmk xlk_3_ok xtb_101 75 789 (by decide +kernel)
theorem xtb_102 : M_102.2.2.2.2.2.1.all (fun q => xokb xlk_7 M_102 q.1 q.2) = true := by decide +kernel
theorem xmk_102 : xMok M_102 := xmk xlk_7_ok xtb_102 70 792 (by decide +kernel)
theorem xtb_103 : M_103.2.2.2.2.2.1.all (fun q => xokb xlk_0 M_103 q.1 q.2) = true := by decide +kernel
theorem xmk_103 : xMok M_103 := xmk xlk_0_ok xtb_103 71 796 (by decide +kernel)
theorem xtb_104 : M_104.2.2.2.2.2.1.all (fun q => xokb xlk_7 M_104 q.1 q.2) = true := by decide +kernel
theorem xmk_104 : xMok M_104 := xmk xlk_7_ok xtb_104 70 800 (by decide +kernel)
theorem xtb_105 : M_105.2.2.2.2.2.1.all (fun q => xokb xlk_0 M_105 q.1 q.2) = true := by decide +kernel
theorem xmk_105 : xMok M_105 := xmk xlk_0_ok xtb_105 71 804 (by decide +kernel)
theorem xtb_106 : M_106.2.2.2.2.2.1.all (fun q => xokb xlk_0 M_106 q.1 q.2) = true := by decide +kernel
theorem xmk_106 : xMok M_106 := xmk xlk_0_ok xtb_106 71 808 (by decide +kernel)
theorem xtb_107 : M_107.2.2.2.2.2.1.all (fun q => xokb xlk_3 M_107 q.1 q.2) = true := by decide +kernel
theorem xmk_107 : xMok M_107 := xmk xlk_3_ok xtb_107 75 812 (by decide +kernel)
theorem xtb_108 : M_108.2.2.2.2.2.1.all (fun q => xokb xlk_3 M_108 q.1 q.2) = true := by decide +kernel
theorem xmk_108 : xMok M_108 := xmk xlk_3_ok xtb_108 75 817 (by decide +kernel)
theorem xtb_109 : M_109.2.2.2.2.2.1.all (fun q => xokb xlk_8 M_109 q.1 q.2) = true := by decide +kernel
theorem xmk_109 : xMok M_109 := xmk xlk_8_ok xtb_109 76 822 (by decide +kernel)
theorem xtb_110 : M_110.2.2.2.2.2.1.all (fun q => xokb xlk_8 M_110 q.1 q.2) = true := by decide +kernel
theorem xmk_110 : xMok M_110 := xmk xlk_8_ok xtb_110 76 951 (by decide +kernel)
theorem xtb_111 : M_111.2.2.2.2.2.1.all (fun q => xokb xlk_8 M_111 q.1 q.2) = true := by decide +kernel
theorem xmk_111 : xMok M_111 := xmk xlk_8_ok xtb_111 76 955 (by decide +kernel)
theorem xtb_112 : M_112.2.2.2.2.2.1.all (fun q => xokb xlk_8 M_112 q.1 q.2) = true := by decide +kernel
theorem xmk_112 : xMok M_112 := xmk xlk_8_ok xtb_112 76 959 (by decide +kernel)
theorem xtb_113 : M_113.2.2.2.2.2.1.all (fun q => xokb xlk_8 M_113 q.1 q.2) = true := by decide +kernel
theorem xmk_113 : xMok M_113 := xmk xlk_8_ok xtb_113 76 963 (by decide +kernel)
theorem xtb_114 : M_114.2.2.2.2.2.1.all (fun q => xokb xlk_8 M_114 q.1 q.2) = true := by decide +kernel
theorem xmk_114 : xMok M_114 := xmk xlk_8_ok xtb_114 76 967 (by decide +kernel)
theorem xtb_115 : M_115.2.2.2.2.2.1.all (fun q => xokb xlk_8 M_115 q.1 q.2) = true := by decide +kernel
theorem xmk_115 : xMok M_115 := xmk xlk_8_ok xtb_115 76 971 (by decide +kernel)
theorem xtb_116 : M_116.2.2.2.2.2.1.all (fun q => xokb xlk_8 M_116 q.1 q.2) = true := by decide +kernel
theorem xmk_116 : xMok M_116 := xmk xlk_8_ok xtb_116 76 975 (by decide +kernel)
theorem xtb_117 : M_117.2.2.2.2.2.1.all (fun q => xokb xlk_8 M_117 q.1 q.2) = true := by decide +kernel
theorem xmk_117 : xMok M_117 := xmk xlk_8_ok xtb_117 76 979 (by decide +kernel)
theorem xtb_118 : M_118.2.2.2.2.2.1.all (fun q => xokb xlk_8 M_118 q.1 q.2) = true := by decide +kernel
theorem xmk_118 : xMok M_118 := xmk xlk_8_ok xtb_118 76 983 (by decide +kernel)
theorem xtb_119 : M_119.2.2.2.2.2.1.all (fun q => xokb xlk_8 M_119 q.1 q.2) = true := by decide +kernel
theorem xmk_119 : xMok M_119 := xmk xlk_8_ok xtb_119 76 987 (by decide +kernel)
end
section
/-! Rows of the methods. -/
theorem xtb_120 : M_120.2.2.2.2.2.1.all (fun q => xokb xlk_8 M_120 q.1 q.2) = true := by decide +kernel
theorem xmk_120 : xMok M_120 := xmk xlk_8_ok xtb_120 76 990 (by decide +kernel)
theorem xtb_121 : M_121.2.2.2.2.2.1.all (fun q => xokb xlk_8 M_121 q.1 q.2) = true := by decide +kernel
theorem xmk_121 : xMok M_121 := xmk xlk_8_ok xtb_121 76 993 (by decide +kernel)
theorem xtb_122 : M_122.2.2.2.2.2.1.all (fun q => xokb xlk_8 M_122 q.1 q.2) = true := by decide +kernel
theorem xmk_122 : xMok M_122 := xmk xlk_8_ok xtb_122 76 997 (by decide +kernel)
theorem xtb_123 : M_123.2.2.2.2.2.1.all (fun q => xokb xlk_8 M_123 q.1 q.2) = true := by decide +kernel
theorem xmk_123 : xMok M_123 := xmk xlk_8_ok xtb_123 76 1001 (by decide +kernel)
theorem xtb_124 : M_124.2.2.2.2.2.1.all (fun q => xokb xlk_8 M_124 q.1 q.2) = true := by decide +kernel
theorem xmk_124 : xMok M_124 := xmk xlk_8_ok xtb_124 76 1005 (by decide +kernel)
theorem xtb_125 : M_125.2.2.2.2.2.1.all (fun q => xokb xlk_8 M_125 q.1 q.2) = true := by decide +kernel
theorem xmk_125 : xMok M_125 := xmk xlk_8_ok xtb_125 76 1009 (by decide +kernel)
theorem xtb_126 : M_126.2.2.2.2.2.1.all (fun q => xokb xlk_8 M_126 q.1 q.2) = true := by decide +kernel
theorem xmk_126 : xMok M_126 := xmk xlk_8_ok xtb_126 76 1013 (by decide +kernel)
theorem xtb_127 : M_127.2.2.2.2.2.1.all (fun q => xokb xlk_8 M_127 q.1 q.2) = true := by decide +kernel
theorem xmk_127 : xMok M_127 := xmk xlk_8_ok xtb_127 76 1017 (by decide +kernel)
theorem xtb_128 : M_128.2.2.2.2.2.1.all (fun q => xokb xlk_8 M_128 q.1 q.2) = true := by decide +kernel
theorem xmk_128 : xMok M_128 := xmk xlk_8_ok xtb_128 76 1021 (by decide +kernel)
theorem xtb_129 : M_129.2.2.2.2.2.1.all (fun q => xokb xlk_8 M_129 q.1 q.2) = true := by decide +kernel
theorem xmk_129 : xMok M_129 := xmk xlk_8_ok xtb_129 76 1025 (by decide +kernel)
theorem xtb_130 : M_130.2.2.2.2.2.1.all (fun q => xokb xlk_8 M_130 q.1 q.2) = true := by decide +kernel
theorem xmk_130 : xMok M_130 := xmk xlk_8_ok xtb_130 76 1029 (by decide +kernel)
theorem xtb_131 : M_131.2.2.2.2.2.1.all (fun q => xokb xlk_8 M_131 q.1 q.2) = true := by decide +kernel
theorem xmk_131 : xMok M_131 := xmk xlk_8_ok xtb_131 76 1033 (by decide +kernel)
theorem xtb_132 : M_132.2.2.2.2.2.1.all (fun q => xokb xlk_8 M_132 q.1 q.2) = true := by decide +kernel
theorem xmk_132 : xMok M_132 := xmk xlk_8_ok xtb_132 76 1037 (by decide +kernel)
theorem xtb_133 : M_133.2.2.2.2.2.1.all (fun q => xokb xlk_8 M_133 q.1 q.2) = true := by decide +kernel
theorem xmk_133 : xMok M_133 := xmk xlk_8_ok xtb_133 76 1040 (by decide +kernel)
theorem xtb_134 : M_134.2.2.2.2.2.1.all (fun q => xokb xlk_8 M_134 q.1 q.2) = true := by decide +kernel
theorem xmk_134 : xMok M_134 := xmk xlk_8_ok xtb_134 76 1043 (by decide +kernel)
theorem xtb_135 : M_135.2.2.2.2.2.1.all (fun q => xokb xlk_8 M_135 q.1 q.2) = true := by decide +kernel
theorem xmk_135 : xMok M_135 := xmk xlk_8_ok xtb_135 76 1047 (by decide +kernel)
end
section
/-! Rows of the methods. -/
theorem xtb_136 : M_136.2.2.2.2.2.1.all (fun q => xokb xlk_8 M_136 q.1 q.2) = true := by decide +kernel
theorem xmk_136 : xMok M_136 := xmk xlk_8_ok xtb_136 76 1051 (by decide +kernel)
theorem xtb_137 : M_137.2.2.2.2.2.1.all (fun q => xokb xlk_8 M_137 q.1 q.2) = true := by decide +kernel
theorem xmk_137 : xMok M_137 := xmk xlk_8_ok xtb_137 76 1055 (by decide +kernel)
theorem xtb_138 : M_138.2.2.2.2.2.1.all (fun q => xokb xlk_8 M_138 q.1 q.2) = true := by decide +kernel
theorem xmk_138 : xMok M_138 := xmk xlk_8_ok xtb_138 76 1059 (by decide +kernel)
theorem xtb_139 : M_139.2.2.2.2.2.1.all (fun q => xokb xlk_8 M_139 q.1 q.2) = true := by decide +kernel
theorem xmk_139 : xMok M_139 := xmk xlk_8_ok xtb_139 76 1063 (by decide +kernel)
theorem xtb_140 : M_140.2.2.2.2.2.1.all (fun q => xokb xlk_8 M_140 q.1 q.2) = true := by decide +kernel
theorem xmk_140 : xMok M_140 := xmk xlk_8_ok xtb_140 76 1067 (by decide +kernel)
theorem xtb_141 : M_141.2.2.2.2.2.1.all (fun q => xokb xlk_8 M_141 q.1 q.2) = true := by decide +kernel
theorem xmk_141 : xMok M_141 := xmk xlk_8_ok xtb_141 76 1071 (by decide +kernel)
theorem xtb_142 : M_142.2.2.2.2.2.1.all (fun q => xokb xlk_8 M_142 q.1 q.2) = true := by decide +kernel
theorem xmk_142 : xMok M_142 := xmk xlk_8_ok xtb_142 76 1075 (by decide +kernel)
theorem xtb_143 : M_143.2.2.2.2.2.1.all (fun q => xokb xlk_8 M_143 q.1 q.2) = true := by decide +kernel
theorem xmk_143 : xMok M_143 := xmk xlk_8_ok xtb_143 76 1079 (by decide +kernel)
theorem xtb_144 : M_144.2.2.2.2.2.1.all (fun q => xokb xlk_8 M_144 q.1 q.2) = true := by decide +kernel
theorem xmk_144 : xMok M_144 := xmk xlk_8_ok xtb_144 76 1082 (by decide +kernel)
theorem xtb_145 : M_145.2.2.2.2.2.1.all (fun q => xokb xlk_8 M_145 q.1 q.2) = true := by decide +kernel
theorem xmk_145 : xMok M_145 := xmk xlk_8_ok xtb_145 76 1086 (by decide +kernel)
theorem xtb_146 : M_146.2.2.2.2.2.1.all (fun q => xokb xlk_8 M_146 q.1 q.2) = true := by decide +kernel
theorem xmk_146 : xMok M_146 := xmk xlk_8_ok xtb_146 76 1090 (by decide +kernel)
theorem xtb_147 : M_147.2.2.2.2.2.1.all (fun q => xokb xlk_8 M_147 q.1 q.2) = true := by decide +kernel
theorem xmk_147 : xMok M_147 := xmk xlk_8_ok xtb_147 76 1094 (by decide +kernel)
theorem xtb_148 : M_148.2.2.2.2.2.1.all (fun q => xokb xlk_8 M_148 q.1 q.2) = true := by decide +kernel
theorem xmk_148 : xMok M_148 := xmk xlk_8_ok xtb_148 76 1098 (by decide +kernel)
theorem xtb_149 : M_149.2.2.2.2.2.1.all (fun q => xokb xlk_8 M_149 q.1 q.2) = true := by decide +kernel
theorem xmk_149 : xMok M_149 := xmk xlk_8_ok xtb_149 76 1102 (by decide +kernel)
theorem xtb_150 : M_150.2.2.2.2.2.1.all (fun q => xokb xlk_8 M_150 q.1 q.2) = true := by decide +kernel
theorem xmk_150 : xMok M_150 := xmk xlk_8_ok xtb_150 76 1106 (by decide +kernel)
end
section
/-! Rows of the methods. -/
theorem xtb_151 : M_151.2.2.2.2.2.1.all (fun q => xokb xlk_8 M_151 q.1 q.2) = true := by decide +kernel
theorem xmk_151 : xMok M_151 := xmk xlk_8_ok xtb_151 76 1110 (by decide +kernel)
theorem xtb_152 : M_152.2.2.2.2.2.1.all (fun q => xokb xlk_8 M_152 q.1 q.2) = true := by decide +kernel
theorem xmk_152 : xMok M_152 := xmk xlk_8_ok xtb_152 76 1114 (by decide +kernel)
theorem xtb_153 : M_153.2.2.2.2.2.1.all (fun q => xokb xlk_8 M_153 q.1 q.2) = true := by decide +kernel
theorem xmk_153 : xMok M_153 := xmk xlk_8_ok xtb_153 76 1118 (by decide +kernel)
theorem xtb_154 : M_154.2.2.2.2.2.1.all (fun q => xokb xlk_8 M_154 q.1 q.2) = true := by decide +kernel
theorem xmk_154 : xMok M_154 := xmk xlk_8_ok xtb_154 76 1121 (by decide +kernel)
theorem xtb_155 : M_155.2.2.2.2.2.1.all (fun q => xokb xlk_8 M_155 q.1 q.2) = true := by decide +kernel
theorem xmk_155 : xMok M_155 := xmk xlk_8_ok xtb_155 76 1124 (by decide +kernel)
theorem xtb_156 : M_156.2.2.2.2.2.1.all (fun q => xokb xlk_8 M_156 q.1 q.2) = true := by decide +kernel
theorem xmk_156 : xMok M_156 := xmk xlk_8_ok xtb_156 76 1127 (by decide +kernel)
theorem xtb_157 : M_157.2.2.2.2.2.1.all (fun q => xokb xlk_8 M_157 q.1 q.2) = true := by decide +kernel
theorem xmk_157 : xMok M_157 := xmk xlk_8_ok xtb_157 76 1130 (by decide +kernel)
theorem xtb_158 : M_158.2.2.2.2.2.1.all (fun q => xokb xlk_8 M_158 q.1 q.2) = true := by decide +kernel
theorem xmk_158 : xMok M_158 := xmk xlk_8_ok xtb_158 76 1134 (by decide +kernel)
theorem xtb_159 : M_159.2.2.2.2.2.1.all (fun q => xokb xlk_8 M_159 q.1 q.2) = true := by decide +kernel
theorem xmk_159 : xMok M_159 := xmk xlk_8_ok xtb_159 76 1138 (by decide +kernel)
theorem xtb_160 : M_160.2.2.2.2.2.1.all (fun q => xokb xlk_8 M_160 q.1 q.2) = true := by decide +kernel
theorem xmk_160 : xMok M_160 := xmk xlk_8_ok xtb_160 76 1142 (by decide +kernel)
theorem xtb_161 : M_161.2.2.2.2.2.1.all (fun q => xokb xlk_8 M_161 q.1 q.2) = true := by decide +kernel
theorem xmk_161 : xMok M_161 := xmk xlk_8_ok xtb_161 76 1145 (by decide +kernel)
theorem xtb_162 : M_162.2.2.2.2.2.1.all (fun q => xokb xlk_8 M_162 q.1 q.2) = true := by decide +kernel
theorem xmk_162 : xMok M_162 := xmk xlk_8_ok xtb_162 76 1149 (by decide +kernel)
theorem xtb_163 : M_163.2.2.2.2.2.1.all (fun q => xokb xlk_8 M_163 q.1 q.2) = true := by decide +kernel
theorem xmk_163 : xMok M_163 := xmk xlk_8_ok xtb_163 76 1153 (by decide +kernel)
theorem xtb_164 : M_164.2.2.2.2.2.1.all (fun q => xokb xlk_8 M_164 q.1 q.2) = true := by decide +kernel
theorem xmk_164 : xMok M_164 := xmk xlk_8_ok xtb_164 76 1157 (by decide +kernel)
end
section
/-! Rows of the methods. -/
theorem xtb_165 : M_165.2.2.2.2.2.1.all (fun q => xokb xlk_8 M_165 q.1 q.2) = true := by decide +kernel
theorem xmk_165 : xMok M_165 := xmk xlk_8_ok xtb_165 76 1161 (by decide +kernel)
theorem xtb_166 : M_166.2.2.2.2.2.1.all (fun q => xokb xlk_8 M_166 q.1 q.2) = true := by decide +kernel
theorem xmk_166 : xMok M_166 := xmk xlk_8_ok xtb_166 76 1165 (by decide +kernel)
theorem xtb_167 : M_167.2.2.2.2.2.1.all (fun q => xokb xlk_8 M_167 q.1 q.2) = true := by decide +kernel
theorem xmk_167 : xMok M_167 := xmk xlk_8_ok xtb_167 76 1169 (by decide +kernel)
theorem xtb_168 : M_168.2.2.2.2.2.1.all (fun q => xokb xlk_8 M_168 q.1 q.2) = true := by decide +kernel
theorem xmk_168 : xMok M_168 := xmk xlk_8_ok xtb_168 76 1173 (by decide +kernel)
theorem xtb_169 : M_169.2.2.2.2.2.1.all (fun q => xokb xlk_7 M_169 q.1 q.2) = true := by decide +kernel
theorem xlaw_tab : ∀ pc i, xat M_169.2.2.2.2.2.1 pc = some i → xOK M_169 pc i := xtab_ok xlk_7_ok xtb_169
set_option maxRecDepth 100000 in
theorem xmk_all : ∀ M ∈ xPL, xMok M := List.forall_mem_cons.mpr ⟨xmk_0, List.forall_mem_cons.mpr ⟨xmk_1, List.forall_mem_cons.mpr ⟨xmk_2, List.forall_mem_cons.mpr ⟨xmk_3, List.forall_mem_cons.mpr ⟨xmk_4, List.forall_mem_cons.mpr ⟨xmk_5, List.forall_mem_cons.mpr ⟨xmk_6, List.forall_mem_cons.mpr ⟨xmk_7, List.forall_mem_cons.mpr ⟨xmk_8, List.forall_mem_cons.mpr ⟨xmk_9, List.forall_mem_cons.mpr ⟨xmk_10, List.forall_mem_cons.mpr ⟨xmk_11, List.forall_mem_cons.mpr ⟨xmk_12, List.forall_mem_cons.mpr ⟨xmk_13, List.forall_mem_cons.mpr ⟨xmk_14, List.forall_mem_cons.mpr ⟨xmk_15, List.forall_mem_cons.mpr ⟨xmk_16, List.forall_mem_cons.mpr ⟨xmk_17, List.forall_mem_cons.mpr ⟨xmk_18, List.forall_mem_cons.mpr ⟨xmk_19, List.forall_mem_cons.mpr ⟨xmk_20, List.forall_mem_cons.mpr ⟨xmk_21, List.forall_mem_cons.mpr ⟨xmk_22, List.forall_mem_cons.mpr ⟨xmk_23, List.forall_mem_cons.mpr ⟨xmk_24, List.forall_mem_cons.mpr ⟨xmk_25, List.forall_mem_cons.mpr ⟨xmk_26, List.forall_mem_cons.mpr ⟨xmk_27, List.forall_mem_cons.mpr ⟨xmk_28, List.forall_mem_cons.mpr ⟨xmk_29, List.forall_mem_cons.mpr ⟨xmk_30, List.forall_mem_cons.mpr ⟨xmk_31, List.forall_mem_cons.mpr ⟨xmk_32, List.forall_mem_cons.mpr ⟨xmk_33, List.forall_mem_cons.mpr ⟨xmk_34, List.forall_mem_cons.mpr ⟨xmk_35, List.forall_mem_cons.mpr ⟨xmk_36, List.forall_mem_cons.mpr ⟨xmk_37, List.forall_mem_cons.mpr ⟨xmk_38, List.forall_mem_cons.mpr ⟨xmk_39, List.forall_mem_cons.mpr ⟨xmk_40, List.forall_mem_cons.mpr ⟨xmk_41, List.forall_mem_cons.mpr ⟨xmk_42, List.forall_mem_cons.mpr ⟨xmk_43, List.forall_mem_cons.mpr ⟨xmk_44, List.forall_mem_cons.mpr ⟨xmk_45, List.forall_mem_cons.mpr ⟨xmk_46, List.forall_mem_cons.mpr ⟨xmk_47, List.forall_mem_cons.mpr ⟨xmk_48, List.forall_mem_cons.mpr ⟨xmk_49, List.forall_mem_cons.mpr ⟨xmk_50, List.forall_mem_cons.mpr ⟨xmk_51, List.forall_mem_cons.mpr ⟨xmk_52, List.forall_mem_cons.mpr ⟨xmk_53, List.forall_mem_cons.mpr ⟨xmk_54, List.forall_mem_cons.mpr ⟨xmk_55, List.forall_mem_cons.mpr ⟨xmk_56, List.forall_mem_cons.mpr ⟨xmk_57, List.forall_mem_cons.mpr ⟨xmk_58, List.forall_mem_cons.mpr ⟨xmk_59, List.forall_mem_cons.mpr ⟨xmk_60, List.forall_mem_cons.mpr ⟨xmk_61, List.forall_mem_cons.mpr ⟨xmk_62, List.forall_mem_cons.mpr ⟨xmk_63, List.forall_mem_cons.mpr ⟨xmk_64, List.forall_mem_cons.mpr ⟨xmk_65, List.forall_mem_cons.mpr ⟨xmk_66, List.forall_mem_cons.mpr ⟨xmk_67, List.forall_mem_cons.mpr ⟨xmk_68, List.forall_mem_cons.mpr ⟨xmk_69, List.forall_mem_cons.mpr ⟨xmk_70, List.forall_mem_cons.mpr ⟨xmk_71, List.forall_mem_cons.mpr ⟨xmk_72, List.forall_mem_cons.mpr ⟨xmk_73, List.forall_mem_cons.mpr ⟨xmk_74, List.forall_mem_cons.mpr ⟨xmk_75, List.forall_mem_cons.mpr ⟨xmk_76, List.forall_mem_cons.mpr ⟨xmk_77, List.forall_mem_cons.mpr ⟨xmk_78, List.forall_mem_cons.mpr ⟨xmk_79, List.forall_mem_cons.mpr ⟨xmk_80, List.forall_mem_cons.mpr ⟨xmk_81, List.forall_mem_cons.mpr ⟨xmk_82, List.forall_mem_cons.mpr ⟨xmk_83, List.forall_mem_cons.mpr ⟨xmk_84, List.forall_mem_cons.mpr ⟨xmk_85, List.forall_mem_cons.mpr ⟨xmk_86, List.forall_mem_cons.mpr ⟨xmk_87, List.forall_mem_cons.mpr ⟨xmk_88, List.forall_mem_cons.mpr ⟨xmk_89, List.forall_mem_cons.mpr ⟨xmk_90, List.forall_mem_cons.mpr ⟨xmk_91, List.forall_mem_cons.mpr ⟨xmk_92, List.forall_mem_cons.mpr ⟨xmk_93, List.forall_mem_cons.mpr ⟨xmk_94, List.forall_mem_cons.mpr ⟨xmk_95, List.forall_mem_cons.mpr ⟨xmk_96, List.forall_mem_cons.mpr ⟨xmk_97, List.forall_mem_cons.mpr ⟨xmk_98, List.forall_mem_cons.mpr ⟨xmk_99, List.forall_mem_cons.mpr ⟨xmk_100, List.forall_mem_cons.mpr ⟨xmk_101, List.forall_mem_cons.mpr ⟨xmk_102, List.forall_mem_cons.mpr ⟨xmk_103, List.forall_mem_cons.mpr ⟨xmk_104, List.forall_mem_cons.mpr ⟨xmk_105, List.forall_mem_cons.mpr ⟨xmk_106, List.forall_mem_cons.mpr ⟨xmk_107, List.forall_mem_cons.mpr ⟨xmk_108, List.forall_mem_cons.mpr ⟨xmk_109, List.forall_mem_cons.mpr ⟨xmk_110, List.forall_mem_cons.mpr ⟨xmk_111, List.forall_mem_cons.mpr ⟨xmk_112, List.forall_mem_cons.mpr ⟨xmk_113, List.forall_mem_cons.mpr ⟨xmk_114, List.forall_mem_cons.mpr ⟨xmk_115, List.forall_mem_cons.mpr ⟨xmk_116, List.forall_mem_cons.mpr ⟨xmk_117, List.forall_mem_cons.mpr ⟨xmk_118, List.forall_mem_cons.mpr ⟨xmk_119, List.forall_mem_cons.mpr ⟨xmk_120, List.forall_mem_cons.mpr ⟨xmk_121, List.forall_mem_cons.mpr ⟨xmk_122, List.forall_mem_cons.mpr ⟨xmk_123, List.forall_mem_cons.mpr ⟨xmk_124, List.forall_mem_cons.mpr ⟨xmk_125, List.forall_mem_cons.mpr ⟨xmk_126, List.forall_mem_cons.mpr ⟨xmk_127, List.forall_mem_cons.mpr ⟨xmk_128, List.forall_mem_cons.mpr ⟨xmk_129, List.forall_mem_cons.mpr ⟨xmk_130, List.forall_mem_cons.mpr ⟨xmk_131, List.forall_mem_cons.mpr ⟨xmk_132, List.forall_mem_cons.mpr ⟨xmk_133, List.forall_mem_cons.mpr ⟨xmk_134, List.forall_mem_cons.mpr ⟨xmk_135, List.forall_mem_cons.mpr ⟨xmk_136, List.forall_mem_cons.mpr ⟨xmk_137, List.forall_mem_cons.mpr ⟨xmk_138, List.forall_mem_cons.mpr ⟨xmk_139, List.forall_mem_cons.mpr ⟨xmk_140, List.forall_mem_cons.mpr ⟨xmk_141, List.forall_mem_cons.mpr ⟨xmk_142, List.forall_mem_cons.mpr ⟨xmk_143, List.forall_mem_cons.mpr ⟨xmk_144, List.forall_mem_cons.mpr ⟨xmk_145, List.forall_mem_cons.mpr ⟨xmk_146, List.forall_mem_cons.mpr ⟨xmk_147, List.forall_mem_cons.mpr ⟨xmk_148, List.forall_mem_cons.mpr ⟨xmk_149, List.forall_mem_cons.mpr ⟨xmk_150, List.forall_mem_cons.mpr ⟨xmk_151, List.forall_mem_cons.mpr ⟨xmk_152, List.forall_mem_cons.mpr ⟨xmk_153, List.forall_mem_cons.mpr ⟨xmk_154, List.forall_mem_cons.mpr ⟨xmk_155, List.forall_mem_cons.mpr ⟨xmk_156, List.forall_mem_cons.mpr ⟨xmk_157, List.forall_mem_cons.mpr ⟨xmk_158, List.forall_mem_cons.mpr ⟨xmk_159, List.forall_mem_cons.mpr ⟨xmk_160, List.forall_mem_cons.mpr ⟨xmk_161, List.forall_mem_cons.mpr ⟨xmk_162, List.forall_mem_cons.mpr ⟨xmk_163, List.forall_mem_cons.mpr ⟨xmk_164, List.forall_mem_cons.mpr ⟨xmk_165, List.forall_mem_cons.mpr ⟨xmk_166, List.forall_mem_cons.mpr ⟨xmk_167, List.forall_mem_cons.mpr ⟨xmk_168, fun _ h => absurd h List.not_mem_nil⟩⟩⟩⟩⟩⟩⟩⟩⟩⟩⟩⟩⟩⟩⟩⟩⟩⟩⟩⟩⟩⟩⟩⟩⟩⟩⟩⟩⟩⟩⟩⟩⟩⟩⟩⟩⟩⟩⟩⟩⟩⟩⟩⟩⟩⟩⟩⟩⟩⟩⟩⟩⟩⟩⟩⟩⟩⟩⟩⟩⟩⟩⟩⟩⟩⟩⟩⟩⟩⟩⟩⟩⟩⟩⟩⟩⟩⟩⟩⟩⟩⟩⟩⟩⟩⟩⟩⟩⟩⟩⟩⟩⟩⟩⟩⟩⟩⟩⟩⟩⟩⟩⟩⟩⟩⟩⟩⟩⟩⟩⟩⟩⟩⟩⟩⟩⟩⟩⟩⟩⟩⟩⟩⟩⟩⟩⟩⟩⟩⟩⟩⟩⟩⟩⟩⟩⟩⟩⟩⟩⟩⟩⟩⟩⟩⟩⟩⟩⟩⟩⟩⟩⟩⟩⟩⟩⟩⟩⟩⟩⟩⟩⟩⟩⟩⟩⟩⟩⟩
end
section
theorem xmk_at : ∀ mi, mi < 999 → xMok (xP mi) := by
  intro mi hmi
  have e : xP mi = xPL.getD mi M_0 := by
    unfold xP
    have : Nat.beq mi 999 = false := by
      cases hq : Nat.beq mi 999 with
      | true => have := Nat.eq_of_beq_eq_true hq; omega
      | false => rfl
    rw [this]; rfl
  rw [e, List.getD_eq_getElem?_getD]
  cases h : xPL[mi]? with
  | none => exact xmk_0
  | some M => exact xmk_all M (List.mem_of_getElem? h)
theorem xtab_at : ∀ mi pc i, xat (xP mi).2.2.2.2.2.1 pc = some i → xOK (xP mi) pc i := by
  intro mi
  by_cases h : mi < 999
  · obtain ⟨-, -, -, -, -, -, k7, -⟩ := xmk_at mi h
    exact k7
  · by_cases h2 : mi = 999
    · subst h2
      exact xlaw_tab
    · have e : xP mi = M_0 := by
        unfold xP
        have : Nat.beq mi 999 = false := by
          cases hq : Nat.beq mi 999 with
          | true => exact absurd (Nat.eq_of_beq_eq_true hq) h2
          | false => rfl
        rw [this]
        show xPL.getD mi M_0 = M_0
        rw [List.getD_eq_getElem?_getD, List.getElem?_eq_none (by show xPL.length ≤ mi; have : xPL.length ≤ 999 := by decide +kernel
                                                                  omega)]
        rfl
      rw [e]
      obtain ⟨-, -, -, -, -, -, k7, -⟩ := xmk_0
      exact k7
theorem xlaw_nh : ∀ mi, ¬ mi < 999 → (xP mi).2.2.2.2.2.2 = [] := by
  intro mi h
  by_cases h2 : mi = 999
  · subst h2
    rfl
  · have e : xP mi = M_0 := by
      unfold xP
      have : Nat.beq mi 999 = false := by
        cases hq : Nat.beq mi 999 with
        | true => exact absurd (Nat.eq_of_beq_eq_true hq) h2
        | false => rfl
      rw [this]
      show xPL.getD mi M_0 = M_0
      rw [List.getD_eq_getElem?_getD, List.getElem?_eq_none (by show xPL.length ≤ mi; have : xPL.length ≤ 999 := by decide +kernel
                                                                omega)]
      rfl
    rw [e]
    rfl
theorem xruns : ∀ n, xInv n := xrun xthrows xcatches xtab_at xmk_at xlaw_nh
/-! THE CLAIM OUT OF ONE WALK OF THE LAW'S BODY. Your part is whole_start (and what it stands on); all else here is the same for every law, but numbers. -/
def R_law : String := "WasmCoreLaw"
def lw_P (b : Addr) (xs : List Int32) (args : Array Value) (s : State) : Prop := args = #[.ref b] ∧ s.IntsAt b xs ∧ xs.length ≤ 2048 ∧ (Jvm.Cond.and given_1 narrow_1).before args s = true
def lw_Q (_ : Array Value) (s : State) (o : Outcome) (t : State) : Prop := o = .returned (some (.int 1)) ∧ Framed s o t [] 1087 13222
def lw_Z (below : List Frame) (a : Array Value) (s : State) : State → Prop := fun t => ∃ o, t.status = .running ∧ Ended t below o ∧ lw_Q a s o t
/-- the law's own end, with 1 on the stack, nothing written that was there before, its room as the claim has it -/
theorem lw_ret {p : Program} {l : Launch} {e : Env} {s : State} {m : MethodId} {below : List Frame} {meth : Method} {c : Code} {b : Nat} (hx : p.tables.exec = Jvm.exec) (hb : c.code = code) (hr : meth.sig.returnType = ret) (hlocks : meth.locks = false) {pc : Nat} {H : Heap} {ls : Array Slot} (hdg : decode code pc = .ok (.ireturn, 1)) : W p l e room_1 s m #[Value.ref b] below meth c H [] 1087 13222 (lw_Z below #[Value.ref b] s) (F0 m pc ls [.int 1]) := by
  intro T hT X
  obtain ⟨fs, hret, hrun, hended, hW, hframe⟩ := X.leave (v := some (.int 1)) (hlocks := hlocks) (fun h => by rw [hr] at h; cases h)
  have hmeth' : T.vm.method? m = some meth := X.method'
  refine ⟨T.setFrames fs, ?_, .returned (some (.int 1)), hrun, hended, rfl, ⟨_, rfl⟩, hW, hframe⟩
  jvm_step X.here [X.here.top, hx, hb, hdg, hmeth', hr, ret, narrow_b1]
  (try refine ⟨rfl, ?_⟩); (try refine ⟨rfl, ?_⟩)
  first | (intro acts; rw [hret _ acts rfl rfl rfl]) | rw [hret _ _ rfl rfl rfl]
  exact Steps.refl _
/-- what holds at the law's entry: the machine, the code, the tables' words (any of lw_tbl by 'hts w (by decide +kernel)'), the script of L ints xs at the cell b, what the Statement gives of the start (any of its parts by flat_of_before) -/
def lw_At (p : Program) (s : State) (m : MethodId) (meth : Method) (c : Code) (b L : Nat) (xs : Nat → Int32) : Prop :=
  p.tables.exec = Jvm.exec ∧ c.code = code ∧ meth.sig.returnType = ret ∧ c.maxLocals = 7 ∧ s.vm.findClass R_law = some m.cls ∧ (∀ w ∈ lw_tbl, w.before #[Value.ref b] s = true) ∧ va_X b L xs s s.heap ∧ b < s.heap.size ∧ meth.locks = false ∧ (Jvm.Cond.and given_1 narrow_1).before #[Value.ref b] s = true
end
section
/-! The law's run out of a run of the small machine. -/
theorem xprimA {args : Array Value} {s : State} {ty : FieldType} (hp : ∀ C, ty ≠ .object C) (h : (Cond.arrayClass ty).before args s = true) : ∃ cA : ClassId, ArrOfT s cA ty ∧ va_RA s cA ty := by
  obtain ⟨cA, kA, comp, h1, h2, h3⟩ := Cond.arrayClass_spec h
  refine ⟨cA, fun n z => ⟨fun k h => (by cases h), kA, h2, comp, h3⟩, ?_⟩
  cases ty with
  | object C => exact absurd rfl (hp C)
  | _ => exact h1
theorem xinst : ∀ q ∈ xcl, Cond.instantiable q.1 q.2.2 ∈ lw_tbl := by decide +kernel
theorem xarr4 : Cond.arrayClass .int ∈ lw_tbl ∧ Cond.arrayClass .byte ∈ lw_tbl ∧ Cond.arrayClass .boolean ∈ lw_tbl ∧ Cond.arrayClass .long ∈ lw_tbl := by decide +kernel
/-- the classes' numbers and slots -/
theorem xknown {args : Array Value} {s : State} (hts : ∀ w ∈ lw_tbl, w.before args s = true) : ∃ (D : va_G) (dA : Nat → ClassId), va_K D xcl (xtys dA) s := by
  have h : ∀ c : Nat, ∃ z : ClassId × (Nat → Nat), ∀ q : vw_C, xcl[c]? = some q → u_Kn s q.1 q.2.1 q.2.2 z.1 z.2 := by
    intro c
    cases hq : xcl[c]? with
    | none => exact ⟨(0, fun _ => 0), fun q h => by cases h⟩
    | some q =>
      obtain ⟨C, T, N⟩ := q
      obtain ⟨cC, iS, hK⟩ := u_known (C := C) (T := T) (N := N) (n := N) (fun w hw => hts w (List.mem_filter.mp (show w ∈ xWS from hw)).1) (xcl_ws hq) (hts _ (xinst _ (List.mem_of_getElem? hq)))
      exact ⟨(cC, iS), fun q h => by cases h; exact hK⟩
  obtain ⟨z, hz⟩ := Classical.axiomOfChoice h
  obtain ⟨a0, a1, a2, a3⟩ := xarr4
  obtain ⟨c0, g0⟩ := xprimA (ty := .int) (fun _ h => by cases h) (hts _ a0)
  obtain ⟨c1, g1⟩ := xprimA (ty := .byte) (fun _ h => by cases h) (hts _ a1)
  obtain ⟨c2, g2⟩ := xprimA (ty := .boolean) (fun _ h => by cases h) (hts _ a2)
  obtain ⟨c3, g3⟩ := xprimA (ty := .long) (fun _ h => by cases h) (hts _ a3)
  refine ⟨(fun c => (z c).1, fun c => (z c).2), fun k => match k with
    | 0 => c0
    | 1 => c1
    | 2 => c2
    | _ => c3, fun c q hq => hz c q hq, fun k q hq => ?_⟩
  match k, hq with
  | 0, hq => (cases hq; exact g0)
  | 1, hq => (cases hq; exact g1)
  | 2, hq => (cases hq; exact g2)
  | 3, hq => (cases hq; exact g3)
  | n + 4, hq => simp at hq
/-- the numbers at the start: the script's alone -/
def xh0 (xs : Nat → Int32) : xI := fun a => if a = xscr then xs else fun _ => 0
def xg0 : xJ := fun _ _ => 0
def xS0 (L : Nat) (xs : Nat → Int32) : xS := ([], xh0 xs, xg0, L, room_1.cells, room_1.slots)
set_option maxHeartbeats 4000000 in
set_option maxRecDepth 100000 in
theorem xlaw_start {p : Program} {e : Env} {s : State} {m : MethodId} {below : List Frame} {meth : Method} {c : Code} (l : Launch) (hl : l.stackTraces = false) {b L n : Nat} {xs : Nat → Int32} {S' : xS} (C0 : lw_At p s m meth c b L xs) (hax : ax xP n 11 999 (0, xent 7 [.ref xscr], [], xS0 L xs) = some (.inl (some (.int 1)), S')) :
    W p l e room_1 s m #[Value.ref b] below meth c s.heap [] 0 0 (lw_Z below #[Value.ref b] s) (entryFrame m ([Value.ref b] : List Value).toArray 7) := by
  obtain ⟨hx, hb, hr, hml, hown, hts, hX, hbl, hlocks, hgv⟩ := C0
  obtain ⟨D, dA, hK⟩ := xknown hts
  have hB : xBase (s, b, L, xs) := ⟨hts, hgv⟩
  have X : xCtx (xP 999) 11 p l room_1 s m #[Value.ref b] meth c D dA (fun q => s.heap.size ≤ q) (s, b, L, xs) :=
    ⟨hx, hb, hml, hown, fun w hw => hts w (List.mem_filter.mp hw).1, hK, fun q hq => hq, fun z => absurd z (by decide +kernel), by decide, by decide, xlaw_tab, hX, hbl, Nat.le_refl _, fun _ _ => rfl, fun q hq => hq, State.WarmedH.refl s, fun z => absurd rfl z⟩
  have G := xruns n 11 999 _ _ S' hax p l e room_1 s m #[Value.ref b] below meth c D dA (fun q => s.heap.size ≤ q) 0 (fun _ => b) (s, b, L, xs) (lw_Z below #[Value.ref b] s) hl hB X (by
    intro pc ls st S i hi hs ad H locs cells slots lsC hR hL
    obtain ⟨hP, hD, hS, h4, h5, -⟩ := hR
    obtain ⟨hd, hw⟩ := xlaw_tab pc i hi
    obtain ⟨ins, mk, dat⟩ := i
    cases ins with
    | ireturn =>
      dsimp only [xstep] at hs
      split at hs
      case h_2 => cases hs
      rename_i v
      have hv : v = 1 := by
        cases hq : Nat.beq dat 0 with
        | true => rw [hq] at hs; cases hs; rfl
        | false =>
          rw [hq] at hs
          dsimp only [cond] at hs
          split at hs
          · cases hs; rfl
          · cases hs
      subst hv
      refine va_forget (fun q hq => hS.2.2 q hq) ?_
      refine W.widen (k := room_1.cells) (n := room_1.slots) (by have : cells + S.2.2.2.2.1 = room_1.cells := h4; omega) (by have : slots + S.2.2.2.2.2 = room_1.slots := h5; omega) ?_
      exact lw_ret hx hb hr hlocks hd
    | ifCond cnd off =>
      exfalso
      cases cnd <;> (simp only [xstep, xi1] at hs; split at hs <;> cases hs)
    | if_icmp cnd off =>
      exfalso
      cases cnd <;> (simp only [xstep, xi2] at hs; split at hs <;> cases hs)
    | _ =>
      exfalso
      simp only [xstep, xi1, xi2, xj1, xj2, xji, xr1, xir, xiir, xjir, xli, xlj, xlr, xst1, xst2, xarr, xarrB, xobj, xin, xcopy, xcall, Bool.cond_eq_ite] at hs
      repeat' split at hs
      all_goals cases hs)
  have w := G (fun _ => b) s.heap [] 0 0 _ ⟨fun k q hk => (by cases hk), ⟨fun i j p q hi => (by cases hi), fun k q hk => (by cases hk)⟩, va_S.rf, Nat.zero_add _, Nat.zero_add _, fun k o j v hk => (by cases hk), Nat.zero_le 1000, Nat.le_refl _, rfl, rfl, rfl, fun _ _ => rfl⟩ (xlv.entry (fun _ => b) [.ref xscr] (fun _ h => by cases h with | tail _ h => cases h) (by decide))
  rw [lg_entry_eq]
  exact w
end
section
/-! Runs of the small machine, without their length. -/
def xone (d mi : Nat) (f : xF) : Option xR := match f with
  | (pc, ls, st, S) => match xat (xP mi).2.2.2.2.2.1 pc with
    | none => none
    | some i => xstep d i pc (xkl (xmask mi pc) ls) st S
theorem ax_succ (n d mi : Nat) (f : xF) (r : xO × xS) : ax xP n d mi f = some r → ax xP (n + 1) d mi f = some r := by
  induction n generalizing d mi f r with
  | zero => intro h; cases h
  | succ n ih =>
    intro h
    unfold ax at h ⊢
    cases hi : xat (xP mi).2.2.2.2.2.1 f.1 with
    | none => rw [hi] at h; cases h
    | some i =>
    rw [hi] at h
    dsimp only at h ⊢
    cases hs : xstep d i f.1 (xkl (xmask mi f.1) f.2.1) f.2.2.1 f.2.2.2 with
    | none => rw [hs] at h; cases h
    | some q =>
    rw [hs] at h
    cases q with
    | inl f' => exact ih _ _ _ _ h
    | inr q =>
    cases q with
    | inr q => exact h
    | inl k =>
    dsimp only at h ⊢
    obtain ⟨b1, b2, h⟩ := xnb2 h
    rw [b1, b2]
    dsimp only [cond, Bool.not, Bool.and]
    cases ha : ax xP n (d - 1) k.1 (0, xent (xP k.1).2.2.2.1 k.2.1, [], f.2.2.2) with
    | none => rw [ha] at h; cases h
    | some oS =>
    rw [ha] at h
    rw [ih _ _ _ _ ha]
    obtain ⟨o, S'⟩ := oS
    dsimp only at h ⊢
    obtain ⟨b3, b4, h⟩ := xnb2 h
    rw [b3, b4]
    dsimp only [cond, Bool.not, Bool.and]
    cases o with
    | inl v => exact ih _ _ _ _ h
    | inr x =>
      dsimp only at h ⊢
      cases hv : xisV i.1 with
      | false => rw [hv] at h; cases h
      | true =>
      rw [hv] at h
      dsimp only [cond, Bool.not] at h ⊢
      cases hx : xcatch (xP mi).2.2.2.2.2.1 (xP mi).2.2.2.2.2.2 f.1 x with
      | none => rw [hx] at h; cases h
      | some q =>
      rw [hx] at h
      dsimp only at h ⊢
      obtain ⟨b5, b6, h⟩ := xnb2 h
      rw [b5, b6]
      exact ih _ _ _ _ h
theorem ax_mono {n k d mi : Nat} {f : xF} {r : xO × xS} (hnk : n ≤ k) (h : ax xP n d mi f = some r) : ax xP k d mi f = some r := by
  induction hnk with
  | refl => exact h
  | step _ ih => exact ax_succ _ _ _ _ _ ih
def Ex (d mi : Nat) (f : xF) (r : xO × xS) : Prop := ∃ n, ax xP n d mi f = some r
theorem Ex.next {d mi : Nat} {f f' : xF} {r : xO × xS} (h : xone d mi f = some (.inl f')) (k : Ex d mi f' r) : Ex d mi f r := by
  obtain ⟨n, hn⟩ := k
  refine ⟨n + 1, ?_⟩
  obtain ⟨pc, ls, st, S⟩ := f
  unfold xone at h
  unfold ax
  dsimp only at h ⊢
  cases hi : xat (xP mi).2.2.2.2.2.1 pc with
  | none => rw [hi] at h; cases h
  | some i =>
    rw [hi] at h
    dsimp only at h ⊢
    rw [h]
    exact hn
theorem Ex.done {d mi : Nat} {f : xF} {r : xO × xS} (h : xone d mi f = some (.inr (.inr r))) : Ex d mi f r := by
  refine ⟨1, ?_⟩
  obtain ⟨pc, ls, st, S⟩ := f
  unfold xone at h
  unfold ax
  dsimp only at h ⊢
  cases hi : xat (xP mi).2.2.2.2.2.1 pc with
  | none => rw [hi] at h; cases h
  | some i =>
    rw [hi] at h
    dsimp only at h ⊢
    rw [h]
theorem Ex.call {d mi mk : Nat} {pc : Nat} {ls : List (Option Value)} {st vs rest : List Value} {S S' : xS} {v : Option Value} {r : xO × xS} (h : xone d mi (pc, ls, st, S) = some (.inr (.inl (mk, vs, rest)))) (g : (Nat.ble (xsl vs).length (xP mk).2.2.2.1 && Nat.blt mk 999) = true)
    (hc : Ex (d - 1) mk (0, xent (xP mk).2.2.2.1 vs, [], S) (.inl v, S')) (hb : (Nat.ble S'.2.2.2.2.1 S.2.2.2.2.1 && Nat.ble S'.2.2.2.2.2 S.2.2.2.2.2) = true) (k : Ex d mi (pc + 3, xkl (xmask mi pc) ls, v.toList ++ rest, S') r) : Ex d mi (pc, ls, st, S) r := by
  obtain ⟨n1, h1⟩ := hc
  obtain ⟨n2, h2⟩ := k
  refine ⟨n1 + n2 + 1, ?_⟩
  unfold xone at h
  unfold ax
  dsimp only at h ⊢
  cases hi : xat (xP mi).2.2.2.2.2.1 pc with
  | none => rw [hi] at h; cases h
  | some i =>
    rw [hi] at h
    dsimp only at h ⊢
    rw [h]
    dsimp only
    rw [g, ax_mono (by omega) h1]
    dsimp only [cond, Bool.not]
    rw [hb]
    dsimp only [cond, Bool.not]
    exact ax_mono (by omega) h2
theorem Ex.caught {d mi mk : Nat} {pc x : Nat} {ls : List (Option Value)} {st vs rest : List Value} {S S' : xS} {r : xO × xS} {i : xC} {q : Nat × Nat} (hi : xat (xP mi).2.2.2.2.2.1 pc = some i) (hv : xisV i.1 = true) (h : xstep d i pc (xkl (xmask mi pc) ls) st S = some (.inr (.inl (mk, vs, rest)))) (g : (Nat.ble (xsl vs).length (xP mk).2.2.2.1 && Nat.blt mk 999) = true)
    (hc : Ex (d - 1) mk (0, xent (xP mk).2.2.2.1 vs, [], S) (.inr x, S')) (hb : (Nat.ble S'.2.2.2.2.1 S.2.2.2.2.1 && Nat.ble S'.2.2.2.2.2 S.2.2.2.2.2) = true) (hx : xcatch (xP mi).2.2.2.2.2.1 (xP mi).2.2.2.2.2.2 pc x = some q) (hf : (xfree (xkl (xmask mi pc) ls) q.2 && Nat.blt q.2 (xkl (xmask mi pc) ls).length) = true) (k : Ex d mi (q.1, (xkl (xmask mi pc) ls).set q.2 none, [], S') r) : Ex d mi (pc, ls, st, S) r := by
  obtain ⟨n1, h1⟩ := hc
  obtain ⟨n2, h2⟩ := k
  refine ⟨n1 + n2 + 1, ?_⟩
  unfold ax
  dsimp only
  rw [hi]
  dsimp only
  rw [h]
  dsimp only
  rw [g, ax_mono (by omega) h1]
  dsimp only [cond, Bool.not]
  rw [hb]
  dsimp only [cond, Bool.not]
  rw [hv, hx]
  dsimp only [cond, Bool.not]
  rw [hf]
  exact ax_mono (by omega) h2
/-- some steps that go on -/
def xmany : Nat → Nat → Nat → xF → Option xF
  | 0, _, _, f => some f
  | k + 1, d, mi, f => match xone d mi f with
    | some (.inl f') => xmany k d mi f'
    | _ => none
theorem Ex.many {d mi : Nat} {f' : xF} {r : xO × xS} (e : Ex d mi f' r) : ∀ (k : Nat) {f : xF}, xmany k d mi f = some f' → Ex d mi f r
  | 0, f, h => by
    cases h
    exact e
  | k + 1, f, h => by
    unfold xmany at h
    split at h
    · rename_i f1 h1
      exact Ex.next h1 (Ex.many e k h)
    · cases h
theorem Ex.ite {d mi a b : Nat} {c : Prop} {_ : Decidable c} {f : xF} {ls : List (Option Value)} {st : List Value} {S : xS} {r : xO × xS} (h : xone d mi f = some (.inl (if c then a else b, ls, st, S))) (ht : c → Ex d mi (a, ls, st, S) r) (he : ¬ c → Ex d mi (b, ls, st, S) r) : Ex d mi f r := by
  by_cases hc : c
  · rw [if_pos hc] at h
    exact Ex.next h (ht hc)
  · rw [if_neg hc] at h
    exact Ex.next h (he hc)
theorem Ex.guard {d mi n : Nat} {i : Int32} {f f' : xF} {r : xO × xS} (h : xone d mi f = xin i n (some (.inl f'))) (hg : ¬ (i < 0 ∨ n ≤ i.toNatClampNeg)) (k : Ex d mi f' r) : Ex d mi f r := by
  unfold xin at h
  rw [if_neg hg] at h
  exact Ex.next h k
theorem xkl_kl (m : Nat) (ls : List (Option Value)) : xkl m (xkl m ls) = xkl m ls := by
  induction ls generalizing m with
  | nil => rfl
  | cons o r ih =>
    simp only [xkl, ih]
    cases Nat.beq (m % 2) 1 <;> rfl
theorem ax_kill (n d mi pc : Nat) (ls : List (Option Value)) (st : List Value) (S : xS) : ax xP n d mi (pc, xkl (xmask mi pc) ls, st, S) = ax xP n d mi (pc, ls, st, S) := by
  cases n with
  | zero => rfl
  | succ n =>
    unfold ax
    dsimp only
    rw [xkl_kl]
/-- dead locals don't matter -/
theorem Ex.kill {d mi pc : Nat} {ls ls' : List (Option Value)} {st : List Value} {S : xS} {r : xO × xS} (h : xkl (xmask mi pc) ls = ls') (k : Ex d mi (pc, ls', st, S) r) : Ex d mi (pc, ls, st, S) r := by
  obtain ⟨n, hn⟩ := k
  subst h
  rw [ax_kill] at hn
  exact ⟨n, hn⟩
theorem xbb (c z : Nat) : (Nat.ble c c && Nat.ble z z) = true := by
  rw [Bool.and_eq_true]
  exact ⟨Nat.ble_self_eq_true c, Nat.ble_self_eq_true z⟩
end
section
/-! Tools for the methods as functions. -/
/-- the numbers: the class's cells, the script's, the reference's -/
def xmix (hc hr : xI) (xs : Nat → Int32) : xI := fun a => bif Nat.blt a 27 then hc a else bif Nat.beq a 1000 then xs else hr a
theorem xmix_putC {hc hr : xI} {xs : Nat → Int32} {k j : Nat} {v : Int32} (hk : Nat.blt k 27 = true) : xput (xmix hc hr xs) k j v = xmix (xput hc k j v) hr xs := by
  funext a
  unfold xput xmix
  by_cases h : a = k
  · subst h
    rw [if_pos rfl, hk]
    exact (if_pos rfl).symm
  · rw [if_neg h]
    cases hb : Nat.blt a 27 with
    | true => exact (if_neg h).symm
    | false => rfl
theorem xmix_putR {hc hr : xI} {xs : Nat → Int32} {k j : Nat} {v : Int32} (hk : (Nat.blt k 27 || Nat.beq k 1000) = false) : xput (xmix hc hr xs) k j v = xmix hc (xput hr k j v) xs := by
  funext a
  rw [Bool.or_eq_false_iff] at hk
  unfold xput xmix
  by_cases h : a = k
  · subst h
    rw [if_pos rfl, hk.1, hk.2]
    exact (if_pos rfl).symm
  · rw [if_neg h]
    cases hb : Nat.blt a 27 with
    | true => rfl
    | false =>
      cases hq : Nat.beq a 1000 with
      | true => rfl
      | false => exact (if_neg h).symm
theorem xmix_setC {hc hr : xI} {xs : Nat → Int32} {k : Nat} {f : Nat → Int32} (hk : Nat.blt k 27 = true) : xset (xmix hc hr xs) k f = xmix (xset hc k f) hr xs := by
  funext a
  unfold xset xmix
  by_cases h : a = k
  · subst h
    rw [if_pos rfl, hk]
    exact (if_pos rfl).symm
  · rw [if_neg h]
    cases hb : Nat.blt a 27 with
    | true => exact (if_neg h).symm
    | false => rfl
theorem xmix_setR {hc hr : xI} {xs : Nat → Int32} {k : Nat} {f : Nat → Int32} (hk : (Nat.blt k 27 || Nat.beq k 1000) = false) : xset (xmix hc hr xs) k f = xmix hc (xset hr k f) xs := by
  funext a
  rw [Bool.or_eq_false_iff] at hk
  unfold xset xmix
  by_cases h : a = k
  · subst h
    rw [if_pos rfl, hk.1, hk.2]
    exact (if_pos rfl).symm
  · rw [if_neg h]
    cases hb : Nat.blt a 27 with
    | true => rfl
    | false =>
      cases hq : Nat.beq a 1000 with
      | true => rfl
      | false => exact (if_neg h).symm
/-- an index within -/
def xgd {α : Type} (i : Int32) (n : Nat) (x : Option α) : Option α := if i < 0 ∨ n ≤ i.toNatClampNeg then none else x
theorem xgd_some {α : Type} {i : Int32} {n : Nat} {x : Option α} {r : α} (h : xgd i n x = some r) : ¬ (i < 0 ∨ n ≤ i.toNatClampNeg) ∧ x = some r := by
  unfold xgd at h
  split at h
  · cases h
  · rename_i g; exact ⟨g, h⟩
/-- a divisor that is not 0 -/
def xdz {α : Type} (y : Int32) (x : Option α) : Option α := if y = 0 then none else x
theorem xdz_some {α : Type} {y : Int32} {x : Option α} {r : α} (h : xdz y x = some r) : ¬ y = 0 ∧ x = some r := by
  unfold xdz at h
  split at h
  · cases h
  · rename_i g; exact ⟨g, h⟩
def xdzL {α : Type} (y : Int64) (x : Option α) : Option α := if y = 0 then none else x
theorem xdzL_some {α : Type} {y : Int64} {x : Option α} {r : α} (h : xdzL y x = some r) : ¬ y = 0 ∧ x = some r := by
  unfold xdzL at h
  split at h
  · cases h
  · rename_i g; exact ⟨g, h⟩
theorem xbd {α β : Type} {o : Option α} {f : α → Option β} {r : β} (h : o.bind f = some r) : ∃ q, o = some q ∧ f q = some r := by
  cases o with
  | none => cases h
  | some q => exact ⟨q, rfl, h⟩
abbrev xushr (x y : Int32) : Int32 := (x.toUInt32 >>> (y.toUInt32 &&& Int32.toUInt32 31)).toInt32
abbrev xlushr (x : Int64) (y : Int32) : Int64 := (x.toUInt64 >>> (y.toInt64.toUInt64 &&& Int64.toUInt64 63)).toInt64
theorem xstep_up {d d' pc : Nat} {i : xC} {ls : List (Option Value)} {st : List Value} {S : xS} {q : xR} (hd : d ≤ d') (h : xstep d i pc ls st S = some q) : xstep d' i pc ls st S = some q := by
  have hcall : ∀ dat n, xcall d dat n ls st = some q → xcall d' dat n ls st = some q := by
    intro dat n h
    unfold xcall at h ⊢
    cases d with
    | zero => cases h
    | succ d => cases d' with
      | zero => exact absurd hd (Nat.not_succ_le_zero d)
      | succ d' => exact h
  obtain ⟨ins, mk, dat⟩ := i
  cases ins with
  | invokestatic _ =>
    unfold xstep at h ⊢
    try dsimp only at h ⊢
    cases hb : Nat.beq dat 14421 with
    | true =>
      rw [hb] at h
      dsimp only [cond] at h ⊢
      unfold xcopy at h ⊢
      split at h
      case h_2 => cases h
      unfold xarr at h ⊢
      try dsimp only at h ⊢
      split at h
      case h_2 => cases h
      rename_i t n e
      try dsimp only at h ⊢
      cases hq : Nat.beq t 0 with
      | false => rw [hq] at h; cases h
      | true =>
      rw [hq] at h
      dsimp only [cond] at h ⊢
      split at h
      case h_2 => cases h
      rename_i t2 n2 e2
      try dsimp only at h ⊢
      cases hq2 : Nat.beq t2 0 with
      | false => rw [hq2] at h; cases h
      | true =>
      rw [hq2] at h
      dsimp only [cond] at h ⊢
      split at h
      · cases h
      · rename_i g
        rw [if_neg (fun c => g (by
          rcases c with c | c | c | c | c | c | c
          · exact .inl c
          · exact .inr (.inl c)
          · exact .inr (.inr (.inl c))
          · exact .inr (.inr (.inr (.inl c)))
          · exact .inr (.inr (.inr (.inr (.inl c))))
          · exact .inr (.inr (.inr (.inr (.inr (.inl (by omega))))))
          · exact .inr (.inr (.inr (.inr (.inr (.inr c)))))))]
        exact h
    | false =>
      rw [hb] at h
      exact hcall _ _ h
  | invokevirtual _ =>
    unfold xstep at h ⊢
    try dsimp only at h ⊢
    split at h
    case h_2 => cases h
    rename_i k e
    try dsimp only at h ⊢
    unfold xobj at h ⊢
    split at h
    case h_2 => cases h
    rename_i c' ks e2
    try dsimp only at h ⊢
    cases hq : Nat.beq c' (dat / 16000) with
    | false => rw [hq] at h; cases h
    | true =>
      rw [hq] at h
      exact hcall _ _ h
  | invokespecial _ =>
    unfold xstep at h ⊢
    try dsimp only at h ⊢
    cases hb : Nat.beq dat 14401 with
    | true =>
      rw [hb] at h
      dsimp only [cond] at h ⊢
      unfold xr1 at h ⊢
      split at h
      case h_2 => cases h
      cases d with
      | zero => cases h
      | succ d => cases d' with
        | zero => exact absurd hd (Nat.not_succ_le_zero d)
        | succ d' => exact h
    | false =>
      rw [hb] at h
      dsimp only [cond] at h ⊢
      split at h
      case h_2 => cases h
      rename_i k e
      exact hcall _ _ h
  | new _ =>
    unfold xstep at h ⊢
    try dsimp only at h ⊢
    cases hb : Nat.blt dat 100 with
    | true => rw [hb] at h; exact h
    | false =>
      rw [hb] at h
      dsimp only [cond] at h ⊢
      split at h
      · cases h
      · rw [if_neg (by omega)]
        exact h
  | ifCond cnd _ => cases cnd <;> exact h
  | if_icmp cnd _ => cases cnd <;> exact h
  | _ => exact h
theorem ax_up (n d d' mi : Nat) (f : xF) (r : xO × xS) (hd : d ≤ d') : ax xP n d mi f = some r → ax xP n d' mi f = some r := by
  induction n generalizing d d' mi f r with
  | zero => intro h; cases h
  | succ n ih =>
    intro h
    unfold ax at h ⊢
    cases hi : xat (xP mi).2.2.2.2.2.1 f.1 with
    | none => rw [hi] at h; cases h
    | some i =>
    rw [hi] at h
    dsimp only at h ⊢
    cases hs : xstep d i f.1 (xkl (xmask mi f.1) f.2.1) f.2.2.1 f.2.2.2 with
    | none => rw [hs] at h; cases h
    | some q =>
    rw [hs] at h
    rw [xstep_up hd hs]
    cases q with
    | inl f' => exact ih _ _ _ _ _ hd h
    | inr q =>
    cases q with
    | inr q => exact h
    | inl k =>
    dsimp only at h ⊢
    obtain ⟨b1, b2, h⟩ := xnb2 h
    rw [b1, b2]
    dsimp only [cond, Bool.not, Bool.and]
    cases ha : ax xP n (d - 1) k.1 (0, xent (xP k.1).2.2.2.1 k.2.1, [], f.2.2.2) with
    | none => rw [ha] at h; cases h
    | some oS =>
    rw [ha] at h
    rw [ih _ (d' - 1) _ _ _ (by omega) ha]
    obtain ⟨o, S'⟩ := oS
    dsimp only at h ⊢
    obtain ⟨b3, b4, h⟩ := xnb2 h
    rw [b3, b4]
    dsimp only [cond, Bool.not, Bool.and]
    cases o with
    | inl v => exact ih _ _ _ _ _ hd h
    | inr x =>
      dsimp only at h ⊢
      cases hv : xisV i.1 with
      | false => rw [hv] at h; cases h
      | true =>
      rw [hv] at h
      dsimp only [cond, Bool.not] at h ⊢
      cases hx : xcatch (xP mi).2.2.2.2.2.1 (xP mi).2.2.2.2.2.2 f.1 x with
      | none => rw [hx] at h; cases h
      | some q =>
      rw [hx] at h
      dsimp only at h ⊢
      obtain ⟨b5, b6, h⟩ := xnb2 h
      rw [b5, b6]
      exact ih _ _ _ _ _ hd h
theorem Ex.up {d d' mi : Nat} {f : xF} {r : xO × xS} (e : Ex d mi f r) (hd : d ≤ d') : Ex d' mi f r := by
  obtain ⟨n, h⟩ := e
  exact ⟨n, ax_up n d d' mi f r hd h⟩
abbrev xSt (G : List xG) (hc hr : xI) (xs : Nat → Int32) (g : xJ) (L c z : Nat) : xS := (G, xmix hc hr xs, g, L, c, z)
theorem Ex.putC {d mi pc k j : Nat} {v : Int32} {ls : List (Option Value)} {st : List Value} {G : List xG} {hc hr : xI} {xs : Nat → Int32} {g : xJ} {L c z : Nat} {f : xF} {r : xO × xS} (e : Ex d mi (pc, ls, st, xSt G (xput hc k j v) hr xs g L c z) r) (hk : Nat.blt k 27 = true) (h : xone d mi f = some (.inl (pc, ls, st, (G, xput (xmix hc hr xs) k j v, g, L, c, z)))) : Ex d mi f r := by
  rw [xmix_putC hk] at h
  exact Ex.next h e
theorem Ex.putR {d mi pc k j : Nat} {v : Int32} {ls : List (Option Value)} {st : List Value} {G : List xG} {hc hr : xI} {xs : Nat → Int32} {g : xJ} {L c z : Nat} {f : xF} {r : xO × xS} (e : Ex d mi (pc, ls, st, xSt G hc (xput hr k j v) xs g L c z) r) (hk : (Nat.blt k 27 || Nat.beq k 1000) = false) (h : xone d mi f = some (.inl (pc, ls, st, (G, xput (xmix hc hr xs) k j v, g, L, c, z)))) : Ex d mi f r := by
  rw [xmix_putR hk] at h
  exact Ex.next h e
theorem Ex.gputC {d mi pc k n : Nat} {i v : Int32} {ls : List (Option Value)} {st : List Value} {G : List xG} {hc hr : xI} {xs : Nat → Int32} {g : xJ} {L c z : Nat} {f : xF} {r : xO × xS} (e : Ex d mi (pc, ls, st, xSt G (xput hc k i.toNatClampNeg v) hr xs g L c z) r) (hk : Nat.blt k 27 = true) (hg : ¬ (i < 0 ∨ n ≤ i.toNatClampNeg)) (h : xone d mi f = xin i n (some (.inl (pc, ls, st, (G, xput (xmix hc hr xs) k i.toNatClampNeg v, g, L, c, z))))) : Ex d mi f r := by
  rw [xmix_putC hk] at h
  exact Ex.guard h hg e
theorem Ex.gputR {d mi pc k n : Nat} {i v : Int32} {ls : List (Option Value)} {st : List Value} {G : List xG} {hc hr : xI} {xs : Nat → Int32} {g : xJ} {L c z : Nat} {f : xF} {r : xO × xS} (e : Ex d mi (pc, ls, st, xSt G hc (xput hr k i.toNatClampNeg v) xs g L c z) r) (hk : (Nat.blt k 27 || Nat.beq k 1000) = false) (hg : ¬ (i < 0 ∨ n ≤ i.toNatClampNeg)) (h : xone d mi f = xin i n (some (.inl (pc, ls, st, (G, xput (xmix hc hr xs) k i.toNatClampNeg v, g, L, c, z))))) : Ex d mi f r := by
  rw [xmix_putR hk] at h
  exact Ex.guard h hg e
theorem Ex.div {d mi : Nat} {y : Int32} {f f' : xF} {r : xO × xS} (e : Ex d mi f' r) (hy : ¬ y = 0) (h : xone d mi f = if y = 0 then none else some (.inl f')) : Ex d mi f r := by
  rw [if_neg hy] at h
  exact Ex.next h e
theorem Ex.divL {d mi : Nat} {y : Int64} {f f' : xF} {r : xO × xS} (e : Ex d mi f' r) (hy : ¬ y = 0) (h : xone d mi f = if y = 0 then none else some (.inl f')) : Ex d mi f r := by
  rw [if_neg hy] at h
  exact Ex.next h e
end
section
/-! More tools. -/
theorem Ex.sw {d mi P t : Nat} {f : xF} {ls : List (Option Value)} {st : List Value} {S : xS} {r : xO × xS} (e : Ex d mi (t, ls, st, S) r) (h : xone d mi f = some (.inl (P, ls, st, S))) (ht : P = t) : Ex d mi f r := by
  subst ht
  exact Ex.next h e
theorem xlsw_d {pc : Nat} {dflt : Int} {ps : Array (Int × Int)} {x : Int32} {t : Nat} (l : List Int32) (hl : ps.toList.map (·.1) = l.map Int32.toInt ∧ ((pc : Int) + dflt).toNat = t) (h : ∀ a ∈ l, x ≠ a) : xlsw pc dflt ps x = t := by
  obtain ⟨hl, ht⟩ := hl
  have key : ∀ (q : List (Int × Int)) (l : List Int32), q.map (·.1) = l.map Int32.toInt → (∀ a ∈ l, x ≠ a) → Op.lookupswitch.offset q dflt x.toInt = dflt := by
    intro q
    induction q with
    | nil => intro l _ _; rfl
    | cons p q ih =>
      intro l hl h
      cases l with
      | nil => cases hl
      | cons a l =>
        obtain ⟨k, o⟩ := p
        rw [List.map_cons, List.map_cons] at hl
        injection hl with h1 h2
        have hne : ¬ k = x.toInt := by
          intro e
          refine h a (List.mem_cons_self) ?_
          have h1 : k = a.toInt := h1
          exact Int32.toInt_inj.mp (by rw [← e, h1])
        unfold Op.lookupswitch.offset
        rw [if_neg hne]
        exact ih l h2 (fun b hb => h b (List.mem_cons_of_mem _ hb))
  unfold xlsw
  rw [key _ l hl h]
  exact ht
theorem xtsw_d {pc : Nat} {dflt lo hi : Int} {offs : Array Int} {x : Int32} {t : Nat} (l : List Int32) (hl : offs.size = (hi - lo + 1).toNat ∧ ((pc : Int) + dflt).toNat = t) (ho : ∀ i, i < offs.size → offs.getD i 0 = dflt ∨ ∃ a ∈ l, a.toInt = lo + i) (h : ∀ a ∈ l, x ≠ a) : xtsw pc dflt lo hi offs x = t := by
  obtain ⟨hl, ht⟩ := hl
  unfold xtsw
  split
  · exact ht
  · rename_i g
    rcases ho (x.toInt - lo).toNat (by omega) with e | ⟨a, ha, e⟩
    · rw [e]; exact ht
    · exfalso
      refine h a ha (Int32.toInt_inj.mp ?_)
      omega
/-- a boolean -/
def xb01 {α : Type} (v : Int32) (x : Option α) : Option α := if v = 0 ∨ v = 1 then x else none
theorem xb01_some {α : Type} {v : Int32} {x : Option α} {r : α} (h : xb01 v x = some r) : (v = 0 ∨ v = 1) ∧ x = some r := by
  unfold xb01 at h
  split at h
  · rename_i g; exact ⟨g, h⟩
  · cases h
theorem Ex.done01 {d mi : Nat} {v : Int32} {f : xF} {r : xO × xS} (hg : v = 0 ∨ v = 1) (h : xone d mi f = if v = 0 ∨ v = 1 then some (.inr (.inr r)) else none) : Ex d mi f r := by
  rw [if_pos hg] at h
  exact Ex.done h
def xto : Int32 ⊕ Nat → xO
  | .inl v => .inl (some (.int v))
  | .inr x => .inr x
def xtoV : Unit ⊕ Nat → xO
  | .inl _ => .inl none
  | .inr x => .inr x
def xtc {α : Type} : α ⊕ Nat → Nat → Nat
  | .inl _, c => c
  | .inr _, c => c - 1
def xtz {α : Type} : α ⊕ Nat → Nat → Nat
  | .inl _, z => z
  | .inr _, z => z - 6
theorem Ex.throw {d mi c z w : Nat} {f : xF} {r : xO × xS} (hcz : 0 < c ∧ 6 ≤ z) (h : xone d mi f = if c = 0 ∨ z < 6 ∨ d < 6 ∨ 8 < w then none else some (.inr (.inr r))) (hd : 6 ≤ d) (hw : w ≤ 8) : Ex d mi f r := by
  rw [if_neg (by omega)] at h
  exact Ex.done h
/-- a copy within -/
def xcpg {α : Type} (sp dp n : Int32) (n0 n1 : Nat) (x : Option α) : Option α := if sp < 0 ∨ dp < 0 ∨ n < 0 ∨ n0 < sp.toNatClampNeg + n.toNatClampNeg ∨ n1 < dp.toNatClampNeg + n.toNatClampNeg then none else x
theorem xcpg_some {α : Type} {sp dp n : Int32} {n0 n1 : Nat} {x : Option α} {r : α} (h : xcpg sp dp n n0 n1 x = some r) : ¬ (sp < 0 ∨ dp < 0 ∨ n < 0 ∨ n0 < sp.toNatClampNeg + n.toNatClampNeg ∨ n1 < dp.toNatClampNeg + n.toNatClampNeg) ∧ x = some r := by
  unfold xcpg at h
  split at h
  · cases h
  · rename_i g; exact ⟨g, h⟩
theorem xcpn {sp dp n : Int32} {n0 n1 d w : Nat} (hg : ¬ (sp < 0 ∨ dp < 0 ∨ n < 0 ∨ n0 < sp.toNatClampNeg + n.toNatClampNeg ∨ n1 < dp.toNatClampNeg + n.toNatClampNeg)) (hd : 3 ≤ d) (hw : w ≤ 8) : ¬ (sp < 0 ∨ dp < 0 ∨ n < 0 ∨ n0 < sp.toNatClampNeg + n.toNatClampNeg ∨ n1 < dp.toNatClampNeg + n.toNatClampNeg ∨ d < 3 ∨ 8 < w) := by
  intro c
  rcases c with c | c | c | c | c | c | c
  · exact hg (.inl c)
  · exact hg (.inr (.inl c))
  · exact hg (.inr (.inr (.inl c)))
  · exact hg (.inr (.inr (.inr (.inl c))))
  · exact hg (.inr (.inr (.inr (.inr c))))
  · omega
  · omega
theorem Ex.copyC {d mi pc a n0 n1 w : Nat} {sp dp n : Int32} {fn : Nat → Int32} {ls : List (Option Value)} {st : List Value} {G : List xG} {hc hr : xI} {xs : Nat → Int32} {g : xJ} {L c z : Nat} {f : xF} {r : xO × xS} (e : Ex d mi (pc, ls, st, xSt G (xset hc a fn) hr xs g L c z) r) (hk : Nat.blt a 27 = true) (hg : ¬ (sp < 0 ∨ dp < 0 ∨ n < 0 ∨ n0 < sp.toNatClampNeg + n.toNatClampNeg ∨ n1 < dp.toNatClampNeg + n.toNatClampNeg)) (hd : 3 ≤ d) (hw : w ≤ 8) (h : xone d mi f = if sp < 0 ∨ dp < 0 ∨ n < 0 ∨ n0 < sp.toNatClampNeg + n.toNatClampNeg ∨ n1 < dp.toNatClampNeg + n.toNatClampNeg ∨ d < 3 ∨ 8 < w then none else some (.inl (pc, ls, st, (G, xset (xmix hc hr xs) a fn, g, L, c, z)))) : Ex d mi f r := by
  rw [if_neg (xcpn hg hd hw), xmix_setC hk] at h
  exact Ex.next h e
end
section
/-! The world behind the makings. -/
def xG0 : List xG := [.inl (0, [some (.ref 1), some (.ref 13), some (.ref 11), some (.ref 19), some (.ref 26), none, none, none, none, none]), .inl (1, [some (.ref 2), none, none, some (.ref 3), some (.ref 4), some (.ref 5), some (.ref 6), some (.ref 7), some (.ref 8), some (.ref 9), some (.ref 10)]), .inr (0, 240), .inr (0, 6), .inr (0, 6), .inr (0, 6), .inr (0, 6), .inr (0, 240), .inr (0, 240), .inr (0, 240), .inr (0, 240), .inl (3, [some (.ref 12), none]), .inr (1, 256), .inl (2, [some (.ref 1), some (.ref 14), some (.ref 15), some (.ref 16), some (.ref 17), some (.ref 18), none, none, none, none, none, none]), .inr (0, 9), .inr (0, 9), .inr (0, 9), .inr (2, 9), .inr (0, 9), .inl (4, [some (.ref 1), some (.ref 11), some (.ref 20), some (.ref 21), none, none, none, none, some (.ref 22), some (.ref 23), some (.ref 24), some (.ref 25)]), .inr (0, 4), .inr (0, 100), .inr (0, 6), .inr (0, 6), .inr (0, 6), .inr (0, 48), .inr (0, 4), .inl (5, [none, none, none, some (.ref 28), none, some (.ref 29), some (.ref 30), some (.ref 31), some (.ref 32), none, none, none, some (.ref 33), some (.ref 34), some (.ref 35), some (.ref 36), some (.ref 37), some (.ref 38), some (.ref 39), some (.ref 40), some (.ref 41), some (.ref 42), none, none, none, none, some (.ref 43), none, some (.ref 44), none, some (.ref 45), none, none, none, some (.ref 46), none, some (.ref 47), some (.ref 48), some (.ref 49), some (.ref 50), none]), .inr (0, 240), .inr (0, 7), .inr (0, 6), .inr (0, 6), .inr (0, 6), .inr (0, 250), .inr (0, 250), .inr (0, 250), .inr (0, 250), .inr (0, 250), .inr (0, 250), .inr (0, 250), .inr (2, 250), .inr (0, 240), .inr (0, 240), .inr (0, 256), .inr (0, 4), .inr (0, 4), .inr (0, 101), .inr (0, 6), .inr (0, 6), .inr (0, 6), .inr (0, 48), .inr (3, 1)]
end
section
/-! Methods as functions. -/
def f_w_fault (a1 : Int32) (hc : xI) : Int32 :=
  if a1 = 0 then (hc 0 8) else (if a1 = (1 : Int32) then (hc 0 9) else (-1 : Int32))
theorem T_w_fault {hr : xI} {g : xJ} {xs : Nat → Int32} {L c z : Nat} (a1 : Int32) (hc : xI) (r : Int32) (H : f_w_fault a1 hc = r) : Ex 0 5 (0, [some (.ref 0), some (.int a1)], [], xSt xG0 hc hr xs g L c z) (.inl (some (.int r)), xSt xG0 hc hr xs g L c z) := by
  unfold f_w_fault at H
  refine Ex.many (f' := (1, [some (.ref 0), some (.int a1)], [.int a1], xSt xG0 hc hr xs g L c z)) ?_ 1 (by rfl)
  refine Ex.ite (ls := [some (.ref 0), some (.int a1)]) (st := []) (S := xSt xG0 hc hr xs g L c z) (by rfl) (fun q1 => ?_) (fun q1 => ?_)
  · replace H := (if_pos q1).symm.trans H
    refine Ex.many (f' := (8, [some (.ref 0), none], [.int (hc 0 8)], xSt xG0 hc hr xs g L c z)) ?_ 2 (by rfl)
    subst H
    exact Ex.done (by rfl)
  · replace H := (if_neg q1).symm.trans H
    refine Ex.many (f' := (11, [some (.ref 0), some (.int a1)], [.int (1 : Int32), .int a1], xSt xG0 hc hr xs g L c z)) ?_ 2 (by rfl)
    refine Ex.ite (ls := [some (.ref 0), some (.int a1)]) (st := []) (S := xSt xG0 hc hr xs g L c z) (by rfl) (fun q2 => ?_) (fun q2 => ?_)
    · replace H := (if_pos q2).symm.trans H
      refine Ex.many (f' := (22, [some (.ref 0), none], [.int (hc 0 9)], xSt xG0 hc hr xs g L c z)) ?_ 3 (by rfl)
      subst H
      exact Ex.done (by rfl)
    · replace H := (if_neg q2).symm.trans H
      refine Ex.many (f' := (22, [none, none], [.int (-1 : Int32)], xSt xG0 hc hr xs g L c z)) ?_ 1 (by rfl)
      subst H
      exact Ex.done (by rfl)
def f_c_removeAll (hc : xI) : Option xI :=
  some (xput (xput hc 1 1 (0 : Int32)) 1 2 (0 : Int32))
theorem T_c_removeAll {hr : xI} {g : xJ} {xs : Nat → Int32} {L c z : Nat} (hc : xI) (r : xI) (H : f_c_removeAll hc = some r) : Ex 0 7 (0, [some (.ref 1)], [], xSt xG0 hc hr xs g L c z) (.inl none, xSt xG0 r hr xs g L c z) := by
  unfold f_c_removeAll at H
  refine Ex.many (f' := (2, [some (.ref 1)], [.int (0 : Int32), .ref 1], xSt xG0 hc hr xs g L c z)) ?_ 2 (by rfl)
  refine Ex.putC (pc := 5) (k := 1) (j := 1) (v := (0 : Int32)) (ls := [some (.ref 1)]) (st := []) (hc := hc) ?_ (by rfl) (by rfl)
  refine Ex.many (f' := (7, [some (.ref 1)], [.int (0 : Int32), .ref 1], xSt xG0 (xput hc 1 1 (0 : Int32)) hr xs g L c z)) ?_ 2 (by rfl)
  refine Ex.putC (pc := 10) (k := 1) (j := 2) (v := (0 : Int32)) (ls := [some (.ref 1)]) (st := []) (hc := (xput hc 1 1 (0 : Int32))) ?_ (by rfl) (by rfl)
  cases H
  exact Ex.done (by rfl)
def f_a_fill_5 : Nat → Int32 → Int32 → Int32 → xI → Option xI
  | 0, _, _, _, _ => none
  | n + 1, v1, v2, v3, hc => if v3 ≤ v2 then (some hc) else (xgd v2 256 (f_a_fill_5 n v1 (v2 + (1 : Int32)) v3 (xput hc 12 v2.toNatClampNeg (vp_nar .byte v1))))
theorem T_a_fill_5 {hr : xI} {g : xJ} {xs : Nat → Int32} {L c z : Nat} (n : Nat) : ∀ (v1 : Int32) (v2 : Int32) (v3 : Int32) (hc : xI) (r : xI), f_a_fill_5 n v1 v2 v3 hc = some r → Ex 0 9 (5, [some (.ref 12), some (.int v1), some (.int v2), some (.int v3)], [], xSt xG0 hc hr xs g L c z) (.inl none, xSt xG0 r hr xs g L c z) := by
  induction n with
  | zero =>
    intro v1 v2 v3 hc r H
    unfold f_a_fill_5 at H
    cases H
  | succ n ih =>
    intro v1 v2 v3 hc r H
    unfold f_a_fill_5 at H
    refine Ex.many (f' := (7, [some (.ref 12), some (.int v1), some (.int v2), some (.int v3)], [.int v3, .int v2], xSt xG0 hc hr xs g L c z)) ?_ 2 (by rfl)
    refine Ex.ite (ls := [some (.ref 12), some (.int v1), some (.int v2), some (.int v3)]) (st := []) (S := xSt xG0 hc hr xs g L c z) (by rfl) (fun q1 => ?_) (fun q1 => ?_)
    · replace H := (if_pos q1).symm.trans H
      cases H
      exact Ex.done (by rfl)
    · replace H := (if_neg q1).symm.trans H
      refine Ex.many (f' := (13, [some (.ref 12), some (.int v1), some (.int v2), some (.int v3)], [.int v1, .int v2, .ref 12], xSt xG0 hc hr xs g L c z)) ?_ 3 (by rfl)
      obtain ⟨g2, H⟩ := xgd_some H
      refine Ex.gputC (pc := 14) (k := 12) (n := 256) (i := v2) (v := (vp_nar .byte v1)) (ls := [some (.ref 12), some (.int v1), some (.int v2), some (.int v3)]) (st := []) (hc := hc) ?_ (by rfl) g2 (by rfl)
      refine Ex.many (f' := (5, [some (.ref 12), some (.int v1), some (.int (v2 + (1 : Int32))), some (.int v3)], [], xSt xG0 (xput hc 12 v2.toNatClampNeg (vp_nar .byte v1)) hr xs g L c z)) ?_ 2 (by rfl)
      exact ih v1 (v2 + (1 : Int32)) v3 (xput hc 12 v2.toNatClampNeg (vp_nar .byte v1)) r H
def f_a_fill (a1 : Int32) (hc : xI) : Option xI :=
  f_a_fill_5 1000 a1 (0 : Int32) (256 : Int32) hc
theorem T_a_fill {hr : xI} {g : xJ} {xs : Nat → Int32} {L c z : Nat} (a1 : Int32) (hc : xI) (r : xI) (H : f_a_fill a1 hc = some r) : Ex 0 9 (0, [some (.ref 12), some (.int a1), none, none], [], xSt xG0 hc hr xs g L c z) (.inl none, xSt xG0 r hr xs g L c z) := by
  unfold f_a_fill at H
  refine Ex.many (f' := (5, [some (.ref 12), some (.int a1), some (.int (0 : Int32)), some (.int (256 : Int32))], [], xSt xG0 hc hr xs g L c z)) ?_ 5 (by rfl)
  exact T_a_fill_5 1000 a1 (0 : Int32) (256 : Int32) hc r H
def f_y_reset (hc : xI) : Option xI :=
  (f_a_fill (0 : Int32) hc).bind fun q1 => some (xput q1 11 1 (1 : Int32))
theorem T_y_reset {hr : xI} {g : xJ} {xs : Nat → Int32} {L c z : Nat} (hc : xI) (r : xI) (H : f_y_reset hc = some r) : Ex 1 8 (0, [some (.ref 11)], [], xSt xG0 hc hr xs g L c z) (.inl none, xSt xG0 r hr xs g L c z) := by
  unfold f_y_reset at H
  refine Ex.many (f' := (5, [some (.ref 11)], [.int (0 : Int32), .ref 12], xSt xG0 hc hr xs g L c z)) ?_ 3 (by rfl)
  obtain ⟨q1, hq1, H⟩ := xbd H
  refine Ex.call (mk := 9) (vs := [.ref 12, .int (0 : Int32)]) (rest := []) (by rfl) (by rfl) (Ex.up (T_a_fill (0 : Int32) hc q1 hq1) (by decide)) (xbb c z) ?_
  show Ex _ _ (8, [some (.ref 11)], [], xSt xG0 q1 hr xs g L c z) _
  refine Ex.many (f' := (10, [some (.ref 11)], [.int (1 : Int32), .ref 11], xSt xG0 q1 hr xs g L c z)) ?_ 2 (by rfl)
  refine Ex.putC (pc := 13) (k := 11) (j := 1) (v := (1 : Int32)) (ls := [some (.ref 11)]) (st := []) (hc := q1) ?_ (by rfl) (by rfl)
  cases H
  exact Ex.done (by rfl)
def f_a_fill2_5 : Nat → Int32 → Int32 → Int32 → xI → Option xI
  | 0, _, _, _, _ => none
  | n + 1, v1, v2, v3, hc => if v3 ≤ v2 then (some hc) else (xgd v2 4 (f_a_fill2_5 n v1 (v2 + (1 : Int32)) v3 (xput hc 20 v2.toNatClampNeg v1)))
theorem T_a_fill2_5 {hr : xI} {g : xJ} {xs : Nat → Int32} {L c z : Nat} (n : Nat) : ∀ (v1 : Int32) (v2 : Int32) (v3 : Int32) (hc : xI) (r : xI), f_a_fill2_5 n v1 v2 v3 hc = some r → Ex 0 11 (5, [some (.ref 20), some (.int v1), some (.int v2), some (.int v3)], [], xSt xG0 hc hr xs g L c z) (.inl none, xSt xG0 r hr xs g L c z) := by
  induction n with
  | zero =>
    intro v1 v2 v3 hc r H
    unfold f_a_fill2_5 at H
    cases H
  | succ n ih =>
    intro v1 v2 v3 hc r H
    unfold f_a_fill2_5 at H
    refine Ex.many (f' := (7, [some (.ref 20), some (.int v1), some (.int v2), some (.int v3)], [.int v3, .int v2], xSt xG0 hc hr xs g L c z)) ?_ 2 (by rfl)
    refine Ex.ite (ls := [some (.ref 20), some (.int v1), some (.int v2), some (.int v3)]) (st := []) (S := xSt xG0 hc hr xs g L c z) (by rfl) (fun q1 => ?_) (fun q1 => ?_)
    · replace H := (if_pos q1).symm.trans H
      cases H
      exact Ex.done (by rfl)
    · replace H := (if_neg q1).symm.trans H
      refine Ex.many (f' := (13, [some (.ref 20), some (.int v1), some (.int v2), some (.int v3)], [.int v1, .int v2, .ref 20], xSt xG0 hc hr xs g L c z)) ?_ 3 (by rfl)
      obtain ⟨g2, H⟩ := xgd_some H
      refine Ex.gputC (pc := 14) (k := 20) (n := 4) (i := v2) (v := v1) (ls := [some (.ref 20), some (.int v1), some (.int v2), some (.int v3)]) (st := []) (hc := hc) ?_ (by rfl) g2 (by rfl)
      refine Ex.many (f' := (5, [some (.ref 20), some (.int v1), some (.int (v2 + (1 : Int32))), some (.int v3)], [], xSt xG0 (xput hc 20 v2.toNatClampNeg v1) hr xs g L c z)) ?_ 2 (by rfl)
      exact ih v1 (v2 + (1 : Int32)) v3 (xput hc 20 v2.toNatClampNeg v1) r H
def f_a_fill2 (a1 : Int32) (hc : xI) : Option xI :=
  f_a_fill2_5 1000 a1 (0 : Int32) (4 : Int32) hc
theorem T_a_fill2 {hr : xI} {g : xJ} {xs : Nat → Int32} {L c z : Nat} (a1 : Int32) (hc : xI) (r : xI) (H : f_a_fill2 a1 hc = some r) : Ex 0 11 (0, [some (.ref 20), some (.int a1), none, none], [], xSt xG0 hc hr xs g L c z) (.inl none, xSt xG0 r hr xs g L c z) := by
  unfold f_a_fill2 at H
  refine Ex.many (f' := (5, [some (.ref 20), some (.int a1), some (.int (0 : Int32)), some (.int (4 : Int32))], [], xSt xG0 hc hr xs g L c z)) ?_ 5 (by rfl)
  exact T_a_fill2_5 1000 a1 (0 : Int32) (4 : Int32) hc r H
def f_h_reset (hc : xI) : Option xI :=
  (f_a_fill2 (0 : Int32) hc).bind fun q1 => some q1
theorem T_h_reset {hr : xI} {g : xJ} {xs : Nat → Int32} {L c z : Nat} (hc : xI) (r : xI) (H : f_h_reset hc = some r) : Ex 1 10 (0, [some (.ref 19)], [], xSt xG0 hc hr xs g L c z) (.inl none, xSt xG0 r hr xs g L c z) := by
  unfold f_h_reset at H
  refine Ex.many (f' := (5, [some (.ref 19)], [.int (0 : Int32), .ref 20], xSt xG0 hc hr xs g L c z)) ?_ 3 (by rfl)
  obtain ⟨q1, hq1, H⟩ := xbd H
  refine Ex.call (mk := 11) (vs := [.ref 20, .int (0 : Int32)]) (rest := []) (by rfl) (by rfl) (Ex.up (T_a_fill2 (0 : Int32) hc q1 hq1) (by decide)) (xbb c z) ?_
  show Ex _ _ (8, [some (.ref 19)], [], xSt xG0 q1 hr xs g L c z) _
  cases H
  exact Ex.done (by rfl)
def f_w_clear (hc : xI) : Option xI :=
  (f_c_removeAll hc).bind fun q1 => (f_y_reset q1).bind fun q2 => (f_h_reset q2).bind fun q3 => some (xput (xput (xput (xput q3 0 5 (0 : Int32)) 0 6 (0 : Int32)) 0 8 (-1 : Int32)) 0 9 (-1 : Int32))
theorem T_w_clear {hr : xI} {g : xJ} {xs : Nat → Int32} {L c z : Nat} (hc : xI) (r : xI) (H : f_w_clear hc = some r) : Ex 2 6 (0, [some (.ref 0)], [], xSt xG0 hc hr xs g L c z) (.inl none, xSt xG0 r hr xs g L c z) := by
  unfold f_w_clear at H
  refine Ex.many (f' := (4, [some (.ref 0)], [.ref 1], xSt xG0 hc hr xs g L c z)) ?_ 2 (by rfl)
  obtain ⟨q1, hq1, H⟩ := xbd H
  refine Ex.call (mk := 7) (vs := [.ref 1]) (rest := []) (by rfl) (by rfl) (Ex.up (T_c_removeAll hc q1 hq1) (by decide)) (xbb c z) ?_
  show Ex _ _ (7, [some (.ref 0)], [], xSt xG0 q1 hr xs g L c z) _
  refine Ex.many (f' := (11, [some (.ref 0)], [.ref 11], xSt xG0 q1 hr xs g L c z)) ?_ 2 (by rfl)
  obtain ⟨q2, hq2, H⟩ := xbd H
  refine Ex.call (mk := 8) (vs := [.ref 11]) (rest := []) (by rfl) (by rfl) (Ex.up (T_y_reset q1 q2 hq2) (by decide)) (xbb c z) ?_
  show Ex _ _ (14, [some (.ref 0)], [], xSt xG0 q2 hr xs g L c z) _
  refine Ex.many (f' := (18, [some (.ref 0)], [.ref 19], xSt xG0 q2 hr xs g L c z)) ?_ 2 (by rfl)
  obtain ⟨q3, hq3, H⟩ := xbd H
  refine Ex.call (mk := 10) (vs := [.ref 19]) (rest := []) (by rfl) (by rfl) (Ex.up (T_h_reset q2 q3 hq3) (by decide)) (xbb c z) ?_
  show Ex _ _ (21, [some (.ref 0)], [], xSt xG0 q3 hr xs g L c z) _
  refine Ex.many (f' := (23, [some (.ref 0)], [.int (0 : Int32), .ref 0], xSt xG0 q3 hr xs g L c z)) ?_ 2 (by rfl)
  refine Ex.putC (pc := 26) (k := 0) (j := 5) (v := (0 : Int32)) (ls := [some (.ref 0)]) (st := []) (hc := q3) ?_ (by rfl) (by rfl)
  refine Ex.many (f' := (28, [some (.ref 0)], [.int (0 : Int32), .ref 0], xSt xG0 (xput q3 0 5 (0 : Int32)) hr xs g L c z)) ?_ 2 (by rfl)
  refine Ex.putC (pc := 31) (k := 0) (j := 6) (v := (0 : Int32)) (ls := [some (.ref 0)]) (st := []) (hc := (xput q3 0 5 (0 : Int32))) ?_ (by rfl) (by rfl)
  refine Ex.many (f' := (33, [some (.ref 0)], [.int (-1 : Int32), .ref 0], xSt xG0 (xput (xput q3 0 5 (0 : Int32)) 0 6 (0 : Int32)) hr xs g L c z)) ?_ 2 (by rfl)
  refine Ex.putC (pc := 36) (k := 0) (j := 8) (v := (-1 : Int32)) (ls := [some (.ref 0)]) (st := []) (hc := (xput (xput q3 0 5 (0 : Int32)) 0 6 (0 : Int32))) ?_ (by rfl) (by rfl)
  refine Ex.many (f' := (38, [some (.ref 0)], [.int (-1 : Int32), .ref 0], xSt xG0 (xput (xput (xput q3 0 5 (0 : Int32)) 0 6 (0 : Int32)) 0 8 (-1 : Int32)) hr xs g L c z)) ?_ 2 (by rfl)
  refine Ex.putC (pc := 41) (k := 0) (j := 9) (v := (-1 : Int32)) (ls := [some (.ref 0)]) (st := []) (hc := (xput (xput (xput q3 0 5 (0 : Int32)) 0 6 (0 : Int32)) 0 8 (-1 : Int32))) ?_ (by rfl) (by rfl)
  cases H
  exact Ex.done (by rfl)
def f_w_argument (a1 : Int32) (hc : xI) : Option (Int32 × xI) :=
  if (hc 0 5) = (4 : Int32) then (some ((-1 : Int32), hc)) else (xgd (hc 0 5) 4 (some (((hc 0 5) + (1 : Int32)), (xput (xput hc 26 (hc 0 5).toNatClampNeg a1) 0 5 ((hc 0 5) + (1 : Int32))))))
theorem T_w_argument {hr : xI} {g : xJ} {xs : Nat → Int32} {L c z : Nat} (a1 : Int32) (hc : xI) (r : (Int32 × xI)) (H : f_w_argument a1 hc = some r) : Ex 0 12 (0, [some (.ref 0), some (.int a1)], [], xSt xG0 hc hr xs g L c z) (.inl (some (.int r.1)), xSt xG0 r.2 hr xs g L c z) := by
  unfold f_w_argument at H
  refine Ex.many (f' := (5, [some (.ref 0), some (.int a1)], [.int (4 : Int32), .int (hc 0 5)], xSt xG0 hc hr xs g L c z)) ?_ 3 (by rfl)
  refine Ex.ite (ls := [some (.ref 0), some (.int a1)]) (st := []) (S := xSt xG0 hc hr xs g L c z) (by rfl) (fun q1 => ?_) (fun q1 => ?_)
  · replace H := (if_pos q1).symm.trans H
    refine Ex.many (f' := (9, [none, none], [.int (-1 : Int32)], xSt xG0 hc hr xs g L c z)) ?_ 1 (by rfl)
    cases H
    exact Ex.done (by rfl)
  · replace H := (if_neg q1).symm.trans H
    refine Ex.many (f' := (19, [some (.ref 0), some (.int a1)], [.int a1, .int (hc 0 5), .ref 26], xSt xG0 hc hr xs g L c z)) ?_ 5 (by rfl)
    obtain ⟨g2, H⟩ := xgd_some H
    refine Ex.gputC (pc := 20) (k := 26) (n := 4) (i := (hc 0 5)) (v := a1) (ls := [some (.ref 0), some (.int a1)]) (st := []) (hc := hc) ?_ (by rfl) g2 (by rfl)
    refine Ex.many (f' := (27, [some (.ref 0), some (.int a1)], [.int ((hc 0 5) + (1 : Int32)), .ref 0], xSt xG0 (xput hc 26 (hc 0 5).toNatClampNeg a1) hr xs g L c z)) ?_ 5 (by rfl)
    refine Ex.putC (pc := 30) (k := 0) (j := 5) (v := ((hc 0 5) + (1 : Int32))) (ls := [some (.ref 0), some (.int a1)]) (st := []) (hc := (xput hc 26 (hc 0 5).toNatClampNeg a1)) ?_ (by rfl) (by rfl)
    refine Ex.many (f' := (34, [some (.ref 0), some (.int a1)], [.int ((hc 0 5) + (1 : Int32))], xSt xG0 (xput (xput hc 26 (hc 0 5).toNatClampNeg a1) 0 5 ((hc 0 5) + (1 : Int32))) hr xs g L c z)) ?_ 2 (by rfl)
    cases H
    exact Ex.done (by rfl)
def f_o_isNumeric_12 (v0 : Int32) : Int32 :=
  if v0 < (103 : Int32) then (0 : Int32) else (if (120 : Int32) < v0 then (0 : Int32) else (1 : Int32))
theorem T_o_isNumeric_12 {hc : xI} {hr : xI} {g : xJ} {xs : Nat → Int32} {L c z : Nat} (v0 : Int32) (r : Int32) (H : f_o_isNumeric_12 v0 = r) : Ex 0 17 (12, [some (.int v0)], [], xSt xG0 hc hr xs g L c z) (.inl (some (.int r)), xSt xG0 hc hr xs g L c z) := by
  unfold f_o_isNumeric_12 at H
  refine Ex.many (f' := (15, [some (.int v0)], [.int (103 : Int32), .int v0], xSt xG0 hc hr xs g L c z)) ?_ 2 (by rfl)
  refine Ex.ite (ls := [some (.int v0)]) (st := []) (S := xSt xG0 hc hr xs g L c z) (by rfl) (fun q1 => ?_) (fun q1 => ?_)
  · replace H := (if_pos q1).symm.trans H
    refine Ex.many (f' := (29, [none], [.int (0 : Int32)], xSt xG0 hc hr xs g L c z)) ?_ 1 (by rfl)
    subst H
    exact Ex.done (by rfl)
  · replace H := (if_neg q1).symm.trans H
    refine Ex.many (f' := (21, [some (.int v0)], [.int (120 : Int32), .int v0], xSt xG0 hc hr xs g L c z)) ?_ 2 (by rfl)
    refine Ex.ite (ls := [some (.int v0)]) (st := []) (S := xSt xG0 hc hr xs g L c z) (by rfl) (fun q2 => ?_) (fun q2 => ?_)
    · replace H := (if_pos q2).symm.trans H
      refine Ex.many (f' := (29, [none], [.int (0 : Int32)], xSt xG0 hc hr xs g L c z)) ?_ 1 (by rfl)
      subst H
      exact Ex.done (by rfl)
    · replace H := (if_neg q2).symm.trans H
      refine Ex.many (f' := (29, [none], [.int (1 : Int32)], xSt xG0 hc hr xs g L c z)) ?_ 2 (by rfl)
      subst H
      exact Ex.done (by rfl)
def f_o_isNumeric (a0 : Int32) : Int32 :=
  if a0 < (69 : Int32) then (f_o_isNumeric_12 a0) else (if a0 ≤ (79 : Int32) then (1 : Int32) else (f_o_isNumeric_12 a0))
theorem T_o_isNumeric {hc : xI} {hr : xI} {g : xJ} {xs : Nat → Int32} {L c z : Nat} (a0 : Int32) (r : Int32) (H : f_o_isNumeric a0 = r) : Ex 0 17 (0, [some (.int a0)], [], xSt xG0 hc hr xs g L c z) (.inl (some (.int r)), xSt xG0 hc hr xs g L c z) := by
  unfold f_o_isNumeric at H
  refine Ex.many (f' := (3, [some (.int a0)], [.int (69 : Int32), .int a0], xSt xG0 hc hr xs g L c z)) ?_ 2 (by rfl)
  refine Ex.ite (ls := [some (.int a0)]) (st := []) (S := xSt xG0 hc hr xs g L c z) (by rfl) (fun q1 => ?_) (fun q1 => ?_)
  · replace H := (if_pos q1).symm.trans H
    exact T_o_isNumeric_12 a0 r H
  · replace H := (if_neg q1).symm.trans H
    refine Ex.many (f' := (9, [some (.int a0)], [.int (79 : Int32), .int a0], xSt xG0 hc hr xs g L c z)) ?_ 2 (by rfl)
    refine Ex.ite (ls := [some (.int a0)]) (st := []) (S := xSt xG0 hc hr xs g L c z) (by rfl) (fun q2 => ?_) (fun q2 => ?_)
    · replace H := (if_pos q2).symm.trans H
      refine Ex.many (f' := (29, [none], [.int (1 : Int32)], xSt xG0 hc hr xs g L c z)) ?_ 2 (by rfl)
      subst H
      exact Ex.done (by rfl)
    · replace H := (if_neg q2).symm.trans H
      exact T_o_isNumeric_12 a0 r H
def f_o_shapeOf (a0 : Int32) : Int32 :=
  if a0 = (0 : Int32) ∨ a0 = (1 : Int32) ∨ a0 = (5 : Int32) ∨ a0 = (11 : Int32) ∨ a0 = (15 : Int32) ∨ a0 = (26 : Int32) ∨ a0 = (27 : Int32) ∨ a0 = (63 : Int32) ∨ a0 = (64 : Int32) then (0 : Int32) else (if a0 = (2 : Int32) ∨ a0 = (3 : Int32) ∨ a0 = (4 : Int32) then (1 : Int32) else (if a0 = (12 : Int32) ∨ a0 = (13 : Int32) then (2 : Int32) else (if a0 = (14 : Int32) then (3 : Int32) else (if a0 = (16 : Int32) then (4 : Int32) else (if a0 = (32 : Int32) ∨ a0 = (33 : Int32) ∨ a0 = (34 : Int32) then (5 : Int32) else (if a0 = (35 : Int32) ∨ a0 = (36 : Int32) then (6 : Int32) else (if a0 = (40 : Int32) ∨ a0 = (44 : Int32) ∨ a0 = (45 : Int32) ∨ a0 = (46 : Int32) ∨ a0 = (47 : Int32) ∨ a0 = (54 : Int32) ∨ a0 = (58 : Int32) ∨ a0 = (59 : Int32) then (7 : Int32) else (if a0 = (65 : Int32) then (8 : Int32) else (if (f_o_isNumeric a0) = 0 then (-1 : Int32) else (0 : Int32))))))))))
theorem T_o_shapeOf {hc : xI} {hr : xI} {g : xJ} {xs : Nat → Int32} {L c z : Nat} (a0 : Int32) (r : Int32) (H : f_o_shapeOf a0 = r) : Ex 1 16 (0, [some (.int a0)], [], xSt xG0 hc hr xs g L c z) (.inl (some (.int r)), xSt xG0 hc hr xs g L c z) := by
  unfold f_o_shapeOf at H
  refine Ex.many (f' := (1, [some (.int a0)], [.int a0], xSt xG0 hc hr xs g L c z)) ?_ 1 (by rfl)
  by_cases q1 : a0 = (0 : Int32) ∨ a0 = (1 : Int32) ∨ a0 = (5 : Int32) ∨ a0 = (11 : Int32) ∨ a0 = (15 : Int32) ∨ a0 = (26 : Int32) ∨ a0 = (27 : Int32) ∨ a0 = (63 : Int32) ∨ a0 = (64 : Int32)
  · replace H := (if_pos q1).symm.trans H
    refine Ex.sw (t := 280) (ls := [some (.int a0)]) (st := []) (S := xSt xG0 hc hr xs g L c z) ?_ (by rfl) (by rcases q1 with q1 | q1 | q1 | q1 | q1 | q1 | q1 | q1 | q1 <;> (rw [q1]; rfl))
    refine Ex.many (f' := (281, [none], [.int (0 : Int32)], xSt xG0 hc hr xs g L c z)) ?_ 1 (by rfl)
    subst H
    exact Ex.done (by rfl)
  · replace H := (if_neg q1).symm.trans H
    by_cases q2 : a0 = (2 : Int32) ∨ a0 = (3 : Int32) ∨ a0 = (4 : Int32)
    · replace H := (if_pos q2).symm.trans H
      refine Ex.sw (t := 282) (ls := [some (.int a0)]) (st := []) (S := xSt xG0 hc hr xs g L c z) ?_ (by rfl) (by rcases q2 with q2 | q2 | q2 <;> (rw [q2]; rfl))
      refine Ex.many (f' := (283, [none], [.int (1 : Int32)], xSt xG0 hc hr xs g L c z)) ?_ 1 (by rfl)
      subst H
      exact Ex.done (by rfl)
    · replace H := (if_neg q2).symm.trans H
      by_cases q3 : a0 = (12 : Int32) ∨ a0 = (13 : Int32)
      · replace H := (if_pos q3).symm.trans H
        refine Ex.sw (t := 284) (ls := [some (.int a0)]) (st := []) (S := xSt xG0 hc hr xs g L c z) ?_ (by rfl) (by rcases q3 with q3 | q3 <;> (rw [q3]; rfl))
        refine Ex.many (f' := (285, [none], [.int (2 : Int32)], xSt xG0 hc hr xs g L c z)) ?_ 1 (by rfl)
        subst H
        exact Ex.done (by rfl)
      · replace H := (if_neg q3).symm.trans H
        by_cases q4 : a0 = (14 : Int32)
        · replace H := (if_pos q4).symm.trans H
          refine Ex.sw (t := 286) (ls := [some (.int a0)]) (st := []) (S := xSt xG0 hc hr xs g L c z) ?_ (by rfl) (by rw [q4]; rfl)
          refine Ex.many (f' := (287, [none], [.int (3 : Int32)], xSt xG0 hc hr xs g L c z)) ?_ 1 (by rfl)
          subst H
          exact Ex.done (by rfl)
        · replace H := (if_neg q4).symm.trans H
          by_cases q5 : a0 = (16 : Int32)
          · replace H := (if_pos q5).symm.trans H
            refine Ex.sw (t := 288) (ls := [some (.int a0)]) (st := []) (S := xSt xG0 hc hr xs g L c z) ?_ (by rfl) (by rw [q5]; rfl)
            refine Ex.many (f' := (289, [none], [.int (4 : Int32)], xSt xG0 hc hr xs g L c z)) ?_ 1 (by rfl)
            subst H
            exact Ex.done (by rfl)
          · replace H := (if_neg q5).symm.trans H
            by_cases q6 : a0 = (32 : Int32) ∨ a0 = (33 : Int32) ∨ a0 = (34 : Int32)
            · replace H := (if_pos q6).symm.trans H
              refine Ex.sw (t := 290) (ls := [some (.int a0)]) (st := []) (S := xSt xG0 hc hr xs g L c z) ?_ (by rfl) (by rcases q6 with q6 | q6 | q6 <;> (rw [q6]; rfl))
              refine Ex.many (f' := (291, [none], [.int (5 : Int32)], xSt xG0 hc hr xs g L c z)) ?_ 1 (by rfl)
              subst H
              exact Ex.done (by rfl)
            · replace H := (if_neg q6).symm.trans H
              by_cases q7 : a0 = (35 : Int32) ∨ a0 = (36 : Int32)
              · replace H := (if_pos q7).symm.trans H
                refine Ex.sw (t := 292) (ls := [some (.int a0)]) (st := []) (S := xSt xG0 hc hr xs g L c z) ?_ (by rfl) (by rcases q7 with q7 | q7 <;> (rw [q7]; rfl))
                refine Ex.many (f' := (294, [none], [.int (6 : Int32)], xSt xG0 hc hr xs g L c z)) ?_ 1 (by rfl)
                subst H
                exact Ex.done (by rfl)
              · replace H := (if_neg q7).symm.trans H
                by_cases q8 : a0 = (40 : Int32) ∨ a0 = (44 : Int32) ∨ a0 = (45 : Int32) ∨ a0 = (46 : Int32) ∨ a0 = (47 : Int32) ∨ a0 = (54 : Int32) ∨ a0 = (58 : Int32) ∨ a0 = (59 : Int32)
                · replace H := (if_pos q8).symm.trans H
                  refine Ex.sw (t := 295) (ls := [some (.int a0)]) (st := []) (S := xSt xG0 hc hr xs g L c z) ?_ (by rfl) (by rcases q8 with q8 | q8 | q8 | q8 | q8 | q8 | q8 | q8 <;> (rw [q8]; rfl))
                  refine Ex.many (f' := (297, [none], [.int (7 : Int32)], xSt xG0 hc hr xs g L c z)) ?_ 1 (by rfl)
                  subst H
                  exact Ex.done (by rfl)
                · replace H := (if_neg q8).symm.trans H
                  by_cases q9 : a0 = (65 : Int32)
                  · replace H := (if_pos q9).symm.trans H
                    refine Ex.sw (t := 298) (ls := [some (.int a0)]) (st := []) (S := xSt xG0 hc hr xs g L c z) ?_ (by rfl) (by rw [q9]; rfl)
                    refine Ex.many (f' := (300, [none], [.int (8 : Int32)], xSt xG0 hc hr xs g L c z)) ?_ 1 (by rfl)
                    subst H
                    exact Ex.done (by rfl)
                  · replace H := (if_neg q9).symm.trans H
                    refine Ex.sw (t := 301) (ls := [some (.int a0)]) (st := []) (S := xSt xG0 hc hr xs g L c z) ?_ (by rfl) (xtsw_d [(0 : Int32), (1 : Int32), (2 : Int32), (3 : Int32), (4 : Int32), (5 : Int32), (11 : Int32), (12 : Int32), (13 : Int32), (14 : Int32), (15 : Int32), (16 : Int32), (26 : Int32), (27 : Int32), (32 : Int32), (33 : Int32), (34 : Int32), (35 : Int32), (36 : Int32), (40 : Int32), (44 : Int32), (45 : Int32), (46 : Int32), (47 : Int32), (54 : Int32), (58 : Int32), (59 : Int32), (63 : Int32), (64 : Int32), (65 : Int32)] (by decide +kernel) (by decide +kernel) (List.forall_mem_cons.mpr ⟨fun e => q1 (.inl e), (List.forall_mem_cons.mpr ⟨fun e => q1 (.inr (.inl e)), (List.forall_mem_cons.mpr ⟨fun e => q2 (.inl e), (List.forall_mem_cons.mpr ⟨fun e => q2 (.inr (.inl e)), (List.forall_mem_cons.mpr ⟨fun e => q2 (.inr (.inr e)), (List.forall_mem_cons.mpr ⟨fun e => q1 (.inr (.inr (.inl e))), (List.forall_mem_cons.mpr ⟨fun e => q1 (.inr (.inr (.inr (.inl e)))), (List.forall_mem_cons.mpr ⟨fun e => q3 (.inl e), (List.forall_mem_cons.mpr ⟨fun e => q3 (.inr e), (List.forall_mem_cons.mpr ⟨fun e => q4 e, (List.forall_mem_cons.mpr ⟨fun e => q1 (.inr (.inr (.inr (.inr (.inl e))))), (List.forall_mem_cons.mpr ⟨fun e => q5 e, (List.forall_mem_cons.mpr ⟨fun e => q1 (.inr (.inr (.inr (.inr (.inr (.inl e)))))), (List.forall_mem_cons.mpr ⟨fun e => q1 (.inr (.inr (.inr (.inr (.inr (.inr (.inl e))))))), (List.forall_mem_cons.mpr ⟨fun e => q6 (.inl e), (List.forall_mem_cons.mpr ⟨fun e => q6 (.inr (.inl e)), (List.forall_mem_cons.mpr ⟨fun e => q6 (.inr (.inr e)), (List.forall_mem_cons.mpr ⟨fun e => q7 (.inl e), (List.forall_mem_cons.mpr ⟨fun e => q7 (.inr e), (List.forall_mem_cons.mpr ⟨fun e => q8 (.inl e), (List.forall_mem_cons.mpr ⟨fun e => q8 (.inr (.inl e)), (List.forall_mem_cons.mpr ⟨fun e => q8 (.inr (.inr (.inl e))), (List.forall_mem_cons.mpr ⟨fun e => q8 (.inr (.inr (.inr (.inl e)))), (List.forall_mem_cons.mpr ⟨fun e => q8 (.inr (.inr (.inr (.inr (.inl e))))), (List.forall_mem_cons.mpr ⟨fun e => q8 (.inr (.inr (.inr (.inr (.inr (.inl e)))))), (List.forall_mem_cons.mpr ⟨fun e => q8 (.inr (.inr (.inr (.inr (.inr (.inr (.inl e))))))), (List.forall_mem_cons.mpr ⟨fun e => q8 (.inr (.inr (.inr (.inr (.inr (.inr (.inr e))))))), (List.forall_mem_cons.mpr ⟨fun e => q1 (.inr (.inr (.inr (.inr (.inr (.inr (.inr (.inl e)))))))), (List.forall_mem_cons.mpr ⟨fun e => q1 (.inr (.inr (.inr (.inr (.inr (.inr (.inr (.inr e)))))))), (List.forall_mem_cons.mpr ⟨fun e => q9 e, (fun _ h => absurd h List.not_mem_nil)⟩)⟩)⟩)⟩)⟩)⟩)⟩)⟩)⟩)⟩)⟩)⟩)⟩)⟩)⟩)⟩)⟩)⟩)⟩)⟩)⟩)⟩)⟩)⟩)⟩)⟩)⟩)⟩)⟩)⟩))
                    refine Ex.many (f' := (302, [some (.int a0)], [.int a0], xSt xG0 hc hr xs g L c z)) ?_ 1 (by rfl)
                    refine Ex.call (mk := 17) (vs := [.int a0]) (rest := []) (by rfl) (by rfl) (Ex.up (T_o_isNumeric a0 _ rfl) (by decide)) (xbb c z) ?_
                    show Ex _ _ (305, [some (.int a0)], [.int (f_o_isNumeric a0)], xSt xG0 hc hr xs g L c z) _
                    refine Ex.ite (ls := [none]) (st := []) (S := xSt xG0 hc hr xs g L c z) (by rfl) (fun q11 => ?_) (fun q11 => ?_)
                    · replace H := (if_pos q11).symm.trans H
                      refine Ex.many (f' := (313, [none], [.int (-1 : Int32)], xSt xG0 hc hr xs g L c z)) ?_ 1 (by rfl)
                      subst H
                      exact Ex.done (by rfl)
                    · replace H := (if_neg q11).symm.trans H
                      refine Ex.many (f' := (313, [none], [.int (0 : Int32)], xSt xG0 hc hr xs g L c z)) ?_ 2 (by rfl)
                      subst H
                      exact Ex.done (by rfl)
def f_c_sizeAt (a1 : Int32) (hc : xI) : Option Int32 :=
  xgd a1 240 (if (f_o_shapeOf (hc 2 a1.toNatClampNeg)) = (3 : Int32) then (xgd (a1 + (1 : Int32)) 240 (some ((3 : Int32) + (hc 2 (a1 + (1 : Int32)).toNatClampNeg)))) else (if (f_o_shapeOf (hc 2 a1.toNatClampNeg)) = 0 then (some (1 : Int32)) else (some (2 : Int32))))
theorem T_c_sizeAt {hr : xI} {g : xJ} {xs : Nat → Int32} {L c z : Nat} (a1 : Int32) (hc : xI) (r : Int32) (H : f_c_sizeAt a1 hc = some r) : Ex 2 15 (0, [some (.ref 1), some (.int a1), none], [], xSt xG0 hc hr xs g L c z) (.inl (some (.int r)), xSt xG0 hc hr xs g L c z) := by
  unfold f_c_sizeAt at H
  refine Ex.many (f' := (5, [some (.ref 1), some (.int a1), none], [.int a1, .ref 2], xSt xG0 hc hr xs g L c z)) ?_ 3 (by rfl)
  obtain ⟨g1, H⟩ := xgd_some H
  refine Ex.guard (f' := (6, [some (.ref 1), some (.int a1), none], [.int (hc 2 a1.toNatClampNeg)], xSt xG0 hc hr xs g L c z)) (by rfl) g1 ?_
  refine Ex.call (mk := 16) (vs := [.int (hc 2 a1.toNatClampNeg)]) (rest := []) (by rfl) (by rfl) (Ex.up (T_o_shapeOf (hc 2 a1.toNatClampNeg) _ rfl) (by decide)) (xbb c z) ?_
  show Ex _ _ (9, [some (.ref 1), some (.int a1), none], [.int (f_o_shapeOf (hc 2 a1.toNatClampNeg))], xSt xG0 hc hr xs g L c z) _
  refine Ex.many (f' := (12, [some (.ref 1), some (.int a1), some (.int (f_o_shapeOf (hc 2 a1.toNatClampNeg)))], [.int (3 : Int32), .int (f_o_shapeOf (hc 2 a1.toNatClampNeg))], xSt xG0 hc hr xs g L c z)) ?_ 3 (by rfl)
  refine Ex.ite (ls := [some (.ref 1), some (.int a1), some (.int (f_o_shapeOf (hc 2 a1.toNatClampNeg)))]) (st := []) (S := xSt xG0 hc hr xs g L c z) (by rfl) (fun q3 => ?_) (fun q3 => ?_)
  · replace H := (if_pos q3).symm.trans H
    refine Ex.many (f' := (23, [some (.ref 1), some (.int a1), none], [.int (a1 + (1 : Int32)), .ref 2, .int (3 : Int32)], xSt xG0 hc hr xs g L c z)) ?_ 6 (by rfl)
    obtain ⟨g4, H⟩ := xgd_some H
    refine Ex.guard (f' := (24, [some (.ref 1), some (.int a1), none], [.int (hc 2 (a1 + (1 : Int32)).toNatClampNeg), .int (3 : Int32)], xSt xG0 hc hr xs g L c z)) (by rfl) g4 ?_
    refine Ex.many (f' := (25, [some (.ref 1), some (.int a1), none], [.int ((3 : Int32) + (hc 2 (a1 + (1 : Int32)).toNatClampNeg))], xSt xG0 hc hr xs g L c z)) ?_ 1 (by rfl)
    cases H
    exact Ex.done (by rfl)
  · replace H := (if_neg q3).symm.trans H
    refine Ex.many (f' := (27, [none, none, some (.int (f_o_shapeOf (hc 2 a1.toNatClampNeg)))], [.int (f_o_shapeOf (hc 2 a1.toNatClampNeg))], xSt xG0 hc hr xs g L c z)) ?_ 1 (by rfl)
    refine Ex.ite (ls := [none, none, some (.int (f_o_shapeOf (hc 2 a1.toNatClampNeg)))]) (st := []) (S := xSt xG0 hc hr xs g L c z) (by rfl) (fun q5 => ?_) (fun q5 => ?_)
    · replace H := (if_pos q5).symm.trans H
      refine Ex.many (f' := (35, [none, none, none], [.int (1 : Int32)], xSt xG0 hc hr xs g L c z)) ?_ 2 (by rfl)
      cases H
      exact Ex.done (by rfl)
    · replace H := (if_neg q5).symm.trans H
      refine Ex.many (f' := (35, [none, none, none], [.int (2 : Int32)], xSt xG0 hc hr xs g L c z)) ?_ 1 (by rfl)
      cases H
      exact Ex.done (by rfl)
def f_h_push (a1 : Int32) (hc : xI) : Option (Int32 × xI) :=
  if (hc 19 4) = (100 : Int32) then (some ((5 : Int32), hc)) else (xgd (hc 19 4) 100 (some ((0 : Int32), (xput (xput hc 21 (hc 19 4).toNatClampNeg a1) 19 4 ((hc 19 4) + (1 : Int32))))))
theorem T_h_push {hr : xI} {g : xJ} {xs : Nat → Int32} {L c z : Nat} (a1 : Int32) (hc : xI) (r : (Int32 × xI)) (H : f_h_push a1 hc = some r) : Ex 0 34 (0, [some (.ref 19), some (.int a1)], [], xSt xG0 hc hr xs g L c z) (.inl (some (.int r.1)), xSt xG0 r.2 hr xs g L c z) := by
  unfold f_h_push at H
  refine Ex.many (f' := (6, [some (.ref 19), some (.int a1)], [.int (100 : Int32), .int (hc 19 4)], xSt xG0 hc hr xs g L c z)) ?_ 3 (by rfl)
  refine Ex.ite (ls := [some (.ref 19), some (.int a1)]) (st := []) (S := xSt xG0 hc hr xs g L c z) (by rfl) (fun q1 => ?_) (fun q1 => ?_)
  · replace H := (if_pos q1).symm.trans H
    refine Ex.many (f' := (10, [none, none], [.int (5 : Int32)], xSt xG0 hc hr xs g L c z)) ?_ 1 (by rfl)
    cases H
    exact Ex.done (by rfl)
  · replace H := (if_neg q1).symm.trans H
    refine Ex.many (f' := (20, [some (.ref 19), some (.int a1)], [.int a1, .int (hc 19 4), .ref 21], xSt xG0 hc hr xs g L c z)) ?_ 5 (by rfl)
    obtain ⟨g2, H⟩ := xgd_some H
    refine Ex.gputC (pc := 21) (k := 21) (n := 100) (i := (hc 19 4)) (v := a1) (ls := [some (.ref 19), some (.int a1)]) (st := []) (hc := hc) ?_ (by rfl) g2 (by rfl)
    refine Ex.many (f' := (28, [some (.ref 19), some (.int a1)], [.int ((hc 19 4) + (1 : Int32)), .ref 19], xSt xG0 (xput hc 21 (hc 19 4).toNatClampNeg a1) hr xs g L c z)) ?_ 5 (by rfl)
    refine Ex.putC (pc := 31) (k := 19) (j := 4) (v := ((hc 19 4) + (1 : Int32))) (ls := [some (.ref 19), some (.int a1)]) (st := []) (hc := (xput hc 21 (hc 19 4).toNatClampNeg a1)) ?_ (by rfl) (by rfl)
    refine Ex.many (f' := (32, [some (.ref 19), some (.int a1)], [.int (0 : Int32)], xSt xG0 (xput (xput hc 21 (hc 19 4).toNatClampNeg a1) 19 4 ((hc 19 4) + (1 : Int32))) hr xs g L c z)) ?_ 1 (by rfl)
    cases H
    exact Ex.done (by rfl)
def f_o_isUnary (a0 : Int32) : Int32 :=
  if a0 = (69 : Int32) then (1 : Int32) else (if a0 = (103 : Int32) then (1 : Int32) else (if a0 = (104 : Int32) then (1 : Int32) else (if a0 = (105 : Int32) then (1 : Int32) else (0 : Int32))))
theorem T_o_isUnary {hc : xI} {hr : xI} {g : xJ} {xs : Nat → Int32} {L c z : Nat} (a0 : Int32) (r : Int32) (H : f_o_isUnary a0 = r) : Ex 0 45 (0, [some (.int a0)], [], xSt xG0 hc hr xs g L c z) (.inl (some (.int r)), xSt xG0 hc hr xs g L c z) := by
  unfold f_o_isUnary at H
  refine Ex.many (f' := (3, [some (.int a0)], [.int (69 : Int32), .int a0], xSt xG0 hc hr xs g L c z)) ?_ 2 (by rfl)
  refine Ex.ite (ls := [some (.int a0)]) (st := []) (S := xSt xG0 hc hr xs g L c z) (by rfl) (fun q1 => ?_) (fun q1 => ?_)
  · replace H := (if_pos q1).symm.trans H
    refine Ex.many (f' := (29, [none], [.int (1 : Int32)], xSt xG0 hc hr xs g L c z)) ?_ 2 (by rfl)
    subst H
    exact Ex.done (by rfl)
  · replace H := (if_neg q1).symm.trans H
    refine Ex.many (f' := (9, [some (.int a0)], [.int (103 : Int32), .int a0], xSt xG0 hc hr xs g L c z)) ?_ 2 (by rfl)
    refine Ex.ite (ls := [some (.int a0)]) (st := []) (S := xSt xG0 hc hr xs g L c z) (by rfl) (fun q2 => ?_) (fun q2 => ?_)
    · replace H := (if_pos q2).symm.trans H
      refine Ex.many (f' := (29, [none], [.int (1 : Int32)], xSt xG0 hc hr xs g L c z)) ?_ 2 (by rfl)
      subst H
      exact Ex.done (by rfl)
    · replace H := (if_neg q2).symm.trans H
      refine Ex.many (f' := (15, [some (.int a0)], [.int (104 : Int32), .int a0], xSt xG0 hc hr xs g L c z)) ?_ 2 (by rfl)
      refine Ex.ite (ls := [some (.int a0)]) (st := []) (S := xSt xG0 hc hr xs g L c z) (by rfl) (fun q3 => ?_) (fun q3 => ?_)
      · replace H := (if_pos q3).symm.trans H
        refine Ex.many (f' := (29, [none], [.int (1 : Int32)], xSt xG0 hc hr xs g L c z)) ?_ 2 (by rfl)
        subst H
        exact Ex.done (by rfl)
      · replace H := (if_neg q3).symm.trans H
        refine Ex.many (f' := (21, [some (.int a0)], [.int (105 : Int32), .int a0], xSt xG0 hc hr xs g L c z)) ?_ 2 (by rfl)
        refine Ex.ite (ls := [some (.int a0)]) (st := []) (S := xSt xG0 hc hr xs g L c z) (by rfl) (fun q4 => ?_) (fun q4 => ?_)
        · replace H := (if_pos q4).symm.trans H
          refine Ex.many (f' := (29, [none], [.int (1 : Int32)], xSt xG0 hc hr xs g L c z)) ?_ 2 (by rfl)
          subst H
          exact Ex.done (by rfl)
        · replace H := (if_neg q4).symm.trans H
          refine Ex.many (f' := (29, [none], [.int (0 : Int32)], xSt xG0 hc hr xs g L c z)) ?_ 1 (by rfl)
          subst H
          exact Ex.done (by rfl)
def f_o_isDivision (a0 : Int32) : Int32 :=
  if a0 < (109 : Int32) then (0 : Int32) else (if (112 : Int32) < a0 then (0 : Int32) else (1 : Int32))
theorem T_o_isDivision {hc : xI} {hr : xI} {g : xJ} {xs : Nat → Int32} {L c z : Nat} (a0 : Int32) (r : Int32) (H : f_o_isDivision a0 = r) : Ex 0 50 (0, [some (.int a0)], [], xSt xG0 hc hr xs g L c z) (.inl (some (.int r)), xSt xG0 hc hr xs g L c z) := by
  unfold f_o_isDivision at H
  refine Ex.many (f' := (3, [some (.int a0)], [.int (109 : Int32), .int a0], xSt xG0 hc hr xs g L c z)) ?_ 2 (by rfl)
  refine Ex.ite (ls := [some (.int a0)]) (st := []) (S := xSt xG0 hc hr xs g L c z) (by rfl) (fun q1 => ?_) (fun q1 => ?_)
  · replace H := (if_pos q1).symm.trans H
    refine Ex.many (f' := (17, [none], [.int (0 : Int32)], xSt xG0 hc hr xs g L c z)) ?_ 1 (by rfl)
    subst H
    exact Ex.done (by rfl)
  · replace H := (if_neg q1).symm.trans H
    refine Ex.many (f' := (9, [some (.int a0)], [.int (112 : Int32), .int a0], xSt xG0 hc hr xs g L c z)) ?_ 2 (by rfl)
    refine Ex.ite (ls := [some (.int a0)]) (st := []) (S := xSt xG0 hc hr xs g L c z) (by rfl) (fun q2 => ?_) (fun q2 => ?_)
    · replace H := (if_pos q2).symm.trans H
      refine Ex.many (f' := (17, [none], [.int (0 : Int32)], xSt xG0 hc hr xs g L c z)) ?_ 1 (by rfl)
      subst H
      exact Ex.done (by rfl)
    · replace H := (if_neg q2).symm.trans H
      refine Ex.many (f' := (17, [none], [.int (1 : Int32)], xSt xG0 hc hr xs g L c z)) ?_ 2 (by rfl)
      subst H
      exact Ex.done (by rfl)
def f_n_ofTwo (a0 : Int32) (a1 : Int32) (a2 : Int32) : Int32 :=
  if a0 = (106 : Int32) then (a1 + a2) else (if a0 = (107 : Int32) then (a1 - a2) else (if a0 = (108 : Int32) then (a1 * a2) else (if a0 = (113 : Int32) then (a1 &&& a2) else (if a0 = (114 : Int32) then (a1 ||| a2) else (if a0 = (115 : Int32) then (a1 ^^^ a2) else (if a0 = (116 : Int32) then (a1 <<< (a2 &&& 31)) else (if a0 = (117 : Int32) then (a1 >>> (a2 &&& 31)) else (if a0 = (118 : Int32) then (xushr a1 a2) else (if a0 = (119 : Int32) then ((a1 <<< (a2 &&& 31)) ||| (xushr a1 (-a2))) else (((xushr a1 a2) ||| (a1 <<< ((-a2) &&& 31)))))))))))))
theorem T_n_ofTwo {hc : xI} {hr : xI} {g : xJ} {xs : Nat → Int32} {L c z : Nat} (a0 : Int32) (a1 : Int32) (a2 : Int32) (r : Int32) (H : f_n_ofTwo a0 a1 a2 = r) : Ex 0 56 (0, [some (.int a0), some (.int a1), some (.int a2)], [], xSt xG0 hc hr xs g L c z) (.inl (some (.int r)), xSt xG0 hc hr xs g L c z) := by
  unfold f_n_ofTwo at H
  refine Ex.many (f' := (1, [some (.int a0), some (.int a1), some (.int a2)], [.int a0], xSt xG0 hc hr xs g L c z)) ?_ 1 (by rfl)
  by_cases q1 : a0 = (106 : Int32)
  · replace H := (if_pos q1).symm.trans H
    refine Ex.sw (t := 72) (ls := [some (.int a0), some (.int a1), some (.int a2)]) (st := []) (S := xSt xG0 hc hr xs g L c z) ?_ (by rfl) (by rw [q1]; rfl)
    refine Ex.many (f' := (75, [none, some (.int a1), some (.int a2)], [.int (a1 + a2)], xSt xG0 hc hr xs g L c z)) ?_ 3 (by rfl)
    subst H
    exact Ex.done (by rfl)
  · replace H := (if_neg q1).symm.trans H
    by_cases q2 : a0 = (107 : Int32)
    · replace H := (if_pos q2).symm.trans H
      refine Ex.sw (t := 76) (ls := [some (.int a0), some (.int a1), some (.int a2)]) (st := []) (S := xSt xG0 hc hr xs g L c z) ?_ (by rfl) (by rw [q2]; rfl)
      refine Ex.many (f' := (79, [none, some (.int a1), some (.int a2)], [.int (a1 - a2)], xSt xG0 hc hr xs g L c z)) ?_ 3 (by rfl)
      subst H
      exact Ex.done (by rfl)
    · replace H := (if_neg q2).symm.trans H
      by_cases q3 : a0 = (108 : Int32)
      · replace H := (if_pos q3).symm.trans H
        refine Ex.sw (t := 80) (ls := [some (.int a0), some (.int a1), some (.int a2)]) (st := []) (S := xSt xG0 hc hr xs g L c z) ?_ (by rfl) (by rw [q3]; rfl)
        refine Ex.many (f' := (83, [none, some (.int a1), some (.int a2)], [.int (a1 * a2)], xSt xG0 hc hr xs g L c z)) ?_ 3 (by rfl)
        subst H
        exact Ex.done (by rfl)
      · replace H := (if_neg q3).symm.trans H
        by_cases q4 : a0 = (113 : Int32)
        · replace H := (if_pos q4).symm.trans H
          refine Ex.sw (t := 84) (ls := [some (.int a0), some (.int a1), some (.int a2)]) (st := []) (S := xSt xG0 hc hr xs g L c z) ?_ (by rfl) (by rw [q4]; rfl)
          refine Ex.many (f' := (87, [none, some (.int a1), some (.int a2)], [.int (a1 &&& a2)], xSt xG0 hc hr xs g L c z)) ?_ 3 (by rfl)
          subst H
          exact Ex.done (by rfl)
        · replace H := (if_neg q4).symm.trans H
          by_cases q5 : a0 = (114 : Int32)
          · replace H := (if_pos q5).symm.trans H
            refine Ex.sw (t := 88) (ls := [some (.int a0), some (.int a1), some (.int a2)]) (st := []) (S := xSt xG0 hc hr xs g L c z) ?_ (by rfl) (by rw [q5]; rfl)
            refine Ex.many (f' := (91, [none, some (.int a1), some (.int a2)], [.int (a1 ||| a2)], xSt xG0 hc hr xs g L c z)) ?_ 3 (by rfl)
            subst H
            exact Ex.done (by rfl)
          · replace H := (if_neg q5).symm.trans H
            by_cases q6 : a0 = (115 : Int32)
            · replace H := (if_pos q6).symm.trans H
              refine Ex.sw (t := 92) (ls := [some (.int a0), some (.int a1), some (.int a2)]) (st := []) (S := xSt xG0 hc hr xs g L c z) ?_ (by rfl) (by rw [q6]; rfl)
              refine Ex.many (f' := (95, [none, some (.int a1), some (.int a2)], [.int (a1 ^^^ a2)], xSt xG0 hc hr xs g L c z)) ?_ 3 (by rfl)
              subst H
              exact Ex.done (by rfl)
            · replace H := (if_neg q6).symm.trans H
              by_cases q7 : a0 = (116 : Int32)
              · replace H := (if_pos q7).symm.trans H
                refine Ex.sw (t := 96) (ls := [some (.int a0), some (.int a1), some (.int a2)]) (st := []) (S := xSt xG0 hc hr xs g L c z) ?_ (by rfl) (by rw [q7]; rfl)
                refine Ex.many (f' := (99, [none, some (.int a1), some (.int a2)], [.int (a1 <<< (a2 &&& 31))], xSt xG0 hc hr xs g L c z)) ?_ 3 (by rfl)
                subst H
                exact Ex.done (by rfl)
              · replace H := (if_neg q7).symm.trans H
                by_cases q8 : a0 = (117 : Int32)
                · replace H := (if_pos q8).symm.trans H
                  refine Ex.sw (t := 100) (ls := [some (.int a0), some (.int a1), some (.int a2)]) (st := []) (S := xSt xG0 hc hr xs g L c z) ?_ (by rfl) (by rw [q8]; rfl)
                  refine Ex.many (f' := (103, [none, some (.int a1), some (.int a2)], [.int (a1 >>> (a2 &&& 31))], xSt xG0 hc hr xs g L c z)) ?_ 3 (by rfl)
                  subst H
                  exact Ex.done (by rfl)
                · replace H := (if_neg q8).symm.trans H
                  by_cases q9 : a0 = (118 : Int32)
                  · replace H := (if_pos q9).symm.trans H
                    refine Ex.sw (t := 104) (ls := [some (.int a0), some (.int a1), some (.int a2)]) (st := []) (S := xSt xG0 hc hr xs g L c z) ?_ (by rfl) (by rw [q9]; rfl)
                    refine Ex.many (f' := (107, [none, some (.int a1), some (.int a2)], [.int (xushr a1 a2)], xSt xG0 hc hr xs g L c z)) ?_ 3 (by rfl)
                    subst H
                    exact Ex.done (by rfl)
                  · replace H := (if_neg q9).symm.trans H
                    by_cases q10 : a0 = (119 : Int32)
                    · replace H := (if_pos q10).symm.trans H
                      refine Ex.sw (t := 108) (ls := [some (.int a0), some (.int a1), some (.int a2)]) (st := []) (S := xSt xG0 hc hr xs g L c z) ?_ (by rfl) (by rw [q10]; rfl)
                      refine Ex.many (f' := (116, [none, some (.int a1), some (.int a2)], [.int ((a1 <<< (a2 &&& 31)) ||| (xushr a1 (-a2)))], xSt xG0 hc hr xs g L c z)) ?_ 8 (by rfl)
                      subst H
                      exact Ex.done (by rfl)
                    · replace H := (if_neg q10).symm.trans H
                      refine Ex.sw (t := 117) (ls := [some (.int a0), some (.int a1), some (.int a2)]) (st := []) (S := xSt xG0 hc hr xs g L c z) ?_ (by rfl) (xtsw_d [(106 : Int32), (107 : Int32), (108 : Int32), (113 : Int32), (114 : Int32), (115 : Int32), (116 : Int32), (117 : Int32), (118 : Int32), (119 : Int32)] (by decide +kernel) (by decide +kernel) (List.forall_mem_cons.mpr ⟨fun e => q1 e, (List.forall_mem_cons.mpr ⟨fun e => q2 e, (List.forall_mem_cons.mpr ⟨fun e => q3 e, (List.forall_mem_cons.mpr ⟨fun e => q4 e, (List.forall_mem_cons.mpr ⟨fun e => q5 e, (List.forall_mem_cons.mpr ⟨fun e => q6 e, (List.forall_mem_cons.mpr ⟨fun e => q7 e, (List.forall_mem_cons.mpr ⟨fun e => q8 e, (List.forall_mem_cons.mpr ⟨fun e => q9 e, (List.forall_mem_cons.mpr ⟨fun e => q10 e, (fun _ h => absurd h List.not_mem_nil)⟩)⟩)⟩)⟩)⟩)⟩)⟩)⟩)⟩)⟩))
                      refine Ex.many (f' := (125, [none, some (.int a1), some (.int a2)], [.int ((xushr a1 a2) ||| (a1 <<< ((-a2) &&& 31)))], xSt xG0 hc hr xs g L c z)) ?_ 8 (by rfl)
                      subst H
                      exact Ex.done (by rfl)
def f_h_replaceTwo (a1 : Int32) (hc : xI) : Option (Int32 × xI) :=
  xgd (((hc 19 4) - (1 : Int32)) - (1 : Int32)) 100 (some ((0 : Int32), (xput (xput hc 19 4 ((hc 19 4) - (1 : Int32))) 21 (((hc 19 4) - (1 : Int32)) - (1 : Int32)).toNatClampNeg a1)))
theorem T_h_replaceTwo {hr : xI} {g : xJ} {xs : Nat → Int32} {L c z : Nat} (a1 : Int32) (hc : xI) (r : (Int32 × xI)) (H : f_h_replaceTwo a1 hc = some r) : Ex 0 53 (0, [some (.ref 19), some (.int a1)], [], xSt xG0 hc hr xs g L c z) (.inl (some (.int r.1)), xSt xG0 r.2 hr xs g L c z) := by
  unfold f_h_replaceTwo at H
  refine Ex.many (f' := (7, [some (.ref 19), some (.int a1)], [.int ((hc 19 4) - (1 : Int32)), .ref 19], xSt xG0 hc hr xs g L c z)) ?_ 5 (by rfl)
  refine Ex.putC (pc := 10) (k := 19) (j := 4) (v := ((hc 19 4) - (1 : Int32))) (ls := [some (.ref 19), some (.int a1)]) (st := []) (hc := hc) ?_ (by rfl) (by rfl)
  refine Ex.many (f' := (21, [some (.ref 19), some (.int a1)], [.int a1, .int (((hc 19 4) - (1 : Int32)) - (1 : Int32)), .ref 21], xSt xG0 (xput hc 19 4 ((hc 19 4) - (1 : Int32))) hr xs g L c z)) ?_ 7 (by rfl)
  obtain ⟨g1, H⟩ := xgd_some H
  refine Ex.gputC (pc := 22) (k := 21) (n := 100) (i := (((hc 19 4) - (1 : Int32)) - (1 : Int32))) (v := a1) (ls := [some (.ref 19), some (.int a1)]) (st := []) (hc := (xput hc 19 4 ((hc 19 4) - (1 : Int32)))) ?_ (by rfl) g1 (by rfl)
  refine Ex.many (f' := (23, [some (.ref 19), some (.int a1)], [.int (0 : Int32)], xSt xG0 (xput (xput hc 19 4 ((hc 19 4) - (1 : Int32))) 21 (((hc 19 4) - (1 : Int32)) - (1 : Int32)).toNatClampNeg a1) hr xs g L c z)) ?_ 1 (by rfl)
  cases H
  exact Ex.done (by rfl)
def f_i_compare (a0 : Int32) (a1 : Int32) : Int32 :=
  if a1 ≤ a0 then (if a0 = a1 then (0 : Int32) else (1 : Int32)) else (-1 : Int32)
theorem T_i_compare {hc : xI} {hr : xI} {g : xJ} {xs : Nat → Int32} {L c z : Nat} (a0 : Int32) (a1 : Int32) (r : Int32) (H : f_i_compare a0 a1 = r) : Ex 0 26 (0, [some (.int a0), some (.int a1)], [], xSt xG0 hc hr xs g L c z) (.inl (some (.int r)), xSt xG0 hc hr xs g L c z) := by
  unfold f_i_compare at H
  refine Ex.many (f' := (2, [some (.int a0), some (.int a1)], [.int a1, .int a0], xSt xG0 hc hr xs g L c z)) ?_ 2 (by rfl)
  refine Ex.ite (ls := [some (.int a0), some (.int a1)]) (st := []) (S := xSt xG0 hc hr xs g L c z) (by rfl) (fun q1 => ?_) (fun q1 => ?_)
  · replace H := (if_pos q1).symm.trans H
    refine Ex.many (f' := (11, [some (.int a0), some (.int a1)], [.int a1, .int a0], xSt xG0 hc hr xs g L c z)) ?_ 2 (by rfl)
    refine Ex.ite (ls := [some (.int a0), some (.int a1)]) (st := []) (S := xSt xG0 hc hr xs g L c z) (by rfl) (fun q2 => ?_) (fun q2 => ?_)
    · replace H := (if_pos q2).symm.trans H
      refine Ex.many (f' := (19, [none, none], [.int (0 : Int32)], xSt xG0 hc hr xs g L c z)) ?_ 2 (by rfl)
      subst H
      exact Ex.done (by rfl)
    · replace H := (if_neg q2).symm.trans H
      refine Ex.many (f' := (19, [none, none], [.int (1 : Int32)], xSt xG0 hc hr xs g L c z)) ?_ 1 (by rfl)
      subst H
      exact Ex.done (by rfl)
  · replace H := (if_neg q1).symm.trans H
    refine Ex.many (f' := (19, [none, none], [.int (-1 : Int32)], xSt xG0 hc hr xs g L c z)) ?_ 2 (by rfl)
    subst H
    exact Ex.done (by rfl)
def f_i_compareUnsigned (a0 : Int32) (a1 : Int32) : Int32 :=
  (f_i_compare (a0 + (-2147483648 : Int32)) (a1 + (-2147483648 : Int32)))
theorem T_i_compareUnsigned {hc : xI} {hr : xI} {g : xJ} {xs : Nat → Int32} {L c z : Nat} (a0 : Int32) (a1 : Int32) (r : Int32) (H : f_i_compareUnsigned a0 a1 = r) : Ex 1 25 (0, [some (.int a0), some (.int a1)], [], xSt xG0 hc hr xs g L c z) (.inl (some (.int r)), xSt xG0 hc hr xs g L c z) := by
  unfold f_i_compareUnsigned at H
  refine Ex.many (f' := (8, [some (.int a0), some (.int a1)], [.int (a1 + (-2147483648 : Int32)), .int (a0 + (-2147483648 : Int32))], xSt xG0 hc hr xs g L c z)) ?_ 6 (by rfl)
  refine Ex.call (mk := 26) (vs := [.int (a0 + (-2147483648 : Int32)), .int (a1 + (-2147483648 : Int32))]) (rest := []) (by rfl) (by rfl) (Ex.up (T_i_compare (a0 + (-2147483648 : Int32)) (a1 + (-2147483648 : Int32)) _ rfl) (by decide)) (xbb c z) ?_
  show Ex _ _ (11, [some (.int a0), some (.int a1)], [.int (f_i_compare (a0 + (-2147483648 : Int32)) (a1 + (-2147483648 : Int32)))], xSt xG0 hc hr xs g L c z) _
  subst H
  exact Ex.done (by rfl)
def f_n_isTrue (a0 : Int32) (a1 : Int32) (a2 : Int32) : Int32 :=
  if a0 = (70 : Int32) then (if a1 = a2 then (1 : Int32) else (0 : Int32)) else (if a0 = (71 : Int32) then (if a1 = a2 then (0 : Int32) else (1 : Int32)) else (if a0 = (72 : Int32) then (if a2 ≤ a1 then (0 : Int32) else (1 : Int32)) else (if a0 = (73 : Int32) then (if 0 ≤ (f_i_compareUnsigned a1 a2) then (0 : Int32) else (1 : Int32)) else (if a0 = (74 : Int32) then (if a1 ≤ a2 then (0 : Int32) else (1 : Int32)) else (if a0 = (75 : Int32) then (if (f_i_compareUnsigned a1 a2) ≤ 0 then (0 : Int32) else (1 : Int32)) else (if a0 = (76 : Int32) then (if a2 < a1 then (0 : Int32) else (1 : Int32)) else (if a0 = (77 : Int32) then (if 0 < (f_i_compareUnsigned a1 a2) then (0 : Int32) else (1 : Int32)) else (if a0 = (78 : Int32) then (if a1 < a2 then (0 : Int32) else (1 : Int32)) else (if (f_i_compareUnsigned a1 a2) < 0 then (0 : Int32) else (1 : Int32))))))))))
theorem T_n_isTrue {hc : xI} {hr : xI} {g : xJ} {xs : Nat → Int32} {L c z : Nat} (a0 : Int32) (a1 : Int32) (a2 : Int32) (r : Int32) (H : f_n_isTrue a0 a1 a2 = r) : Ex 2 55 (0, [some (.int a0), some (.int a1), some (.int a2)], [], xSt xG0 hc hr xs g L c z) (.inl (some (.int r)), xSt xG0 hc hr xs g L c z) := by
  unfold f_n_isTrue at H
  refine Ex.many (f' := (1, [some (.int a0), some (.int a1), some (.int a2)], [.int a0], xSt xG0 hc hr xs g L c z)) ?_ 1 (by rfl)
  by_cases q1 : a0 = (70 : Int32)
  · replace H := (if_pos q1).symm.trans H
    refine Ex.sw (t := 52) (ls := [some (.int a0), some (.int a1), some (.int a2)]) (st := []) (S := xSt xG0 hc hr xs g L c z) ?_ (by rfl) (by rw [q1]; rfl)
    refine Ex.many (f' := (54, [none, some (.int a1), some (.int a2)], [.int a2, .int a1], xSt xG0 hc hr xs g L c z)) ?_ 2 (by rfl)
    refine Ex.ite (ls := [none, some (.int a1), some (.int a2)]) (st := []) (S := xSt xG0 hc hr xs g L c z) (by rfl) (fun q2 => ?_) (fun q2 => ?_)
    · replace H := (if_pos q2).symm.trans H
      refine Ex.many (f' := (62, [none, none, none], [.int (1 : Int32)], xSt xG0 hc hr xs g L c z)) ?_ 2 (by rfl)
      subst H
      exact Ex.done (by rfl)
    · replace H := (if_neg q2).symm.trans H
      refine Ex.many (f' := (62, [none, none, none], [.int (0 : Int32)], xSt xG0 hc hr xs g L c z)) ?_ 1 (by rfl)
      subst H
      exact Ex.done (by rfl)
  · replace H := (if_neg q1).symm.trans H
    by_cases q3 : a0 = (71 : Int32)
    · replace H := (if_pos q3).symm.trans H
      refine Ex.sw (t := 63) (ls := [some (.int a0), some (.int a1), some (.int a2)]) (st := []) (S := xSt xG0 hc hr xs g L c z) ?_ (by rfl) (by rw [q3]; rfl)
      refine Ex.many (f' := (65, [none, some (.int a1), some (.int a2)], [.int a2, .int a1], xSt xG0 hc hr xs g L c z)) ?_ 2 (by rfl)
      refine Ex.ite (ls := [none, some (.int a1), some (.int a2)]) (st := []) (S := xSt xG0 hc hr xs g L c z) (by rfl) (fun q4 => ?_) (fun q4 => ?_)
      · replace H := (if_pos q4).symm.trans H
        refine Ex.many (f' := (73, [none, none, none], [.int (0 : Int32)], xSt xG0 hc hr xs g L c z)) ?_ 1 (by rfl)
        subst H
        exact Ex.done (by rfl)
      · replace H := (if_neg q4).symm.trans H
        refine Ex.many (f' := (73, [none, none, none], [.int (1 : Int32)], xSt xG0 hc hr xs g L c z)) ?_ 2 (by rfl)
        subst H
        exact Ex.done (by rfl)
    · replace H := (if_neg q3).symm.trans H
      by_cases q5 : a0 = (72 : Int32)
      · replace H := (if_pos q5).symm.trans H
        refine Ex.sw (t := 74) (ls := [some (.int a0), some (.int a1), some (.int a2)]) (st := []) (S := xSt xG0 hc hr xs g L c z) ?_ (by rfl) (by rw [q5]; rfl)
        refine Ex.many (f' := (76, [none, some (.int a1), some (.int a2)], [.int a2, .int a1], xSt xG0 hc hr xs g L c z)) ?_ 2 (by rfl)
        refine Ex.ite (ls := [none, some (.int a1), some (.int a2)]) (st := []) (S := xSt xG0 hc hr xs g L c z) (by rfl) (fun q6 => ?_) (fun q6 => ?_)
        · replace H := (if_pos q6).symm.trans H
          refine Ex.many (f' := (84, [none, none, none], [.int (0 : Int32)], xSt xG0 hc hr xs g L c z)) ?_ 1 (by rfl)
          subst H
          exact Ex.done (by rfl)
        · replace H := (if_neg q6).symm.trans H
          refine Ex.many (f' := (84, [none, none, none], [.int (1 : Int32)], xSt xG0 hc hr xs g L c z)) ?_ 2 (by rfl)
          subst H
          exact Ex.done (by rfl)
      · replace H := (if_neg q5).symm.trans H
        by_cases q7 : a0 = (73 : Int32)
        · replace H := (if_pos q7).symm.trans H
          refine Ex.sw (t := 85) (ls := [some (.int a0), some (.int a1), some (.int a2)]) (st := []) (S := xSt xG0 hc hr xs g L c z) ?_ (by rfl) (by rw [q7]; rfl)
          refine Ex.many (f' := (87, [none, some (.int a1), some (.int a2)], [.int a2, .int a1], xSt xG0 hc hr xs g L c z)) ?_ 2 (by rfl)
          refine Ex.call (mk := 25) (vs := [.int a1, .int a2]) (rest := []) (by rfl) (by rfl) (Ex.up (T_i_compareUnsigned a1 a2 _ rfl) (by decide)) (xbb c z) ?_
          show Ex _ _ (90, [none, some (.int a1), some (.int a2)], [.int (f_i_compareUnsigned a1 a2)], xSt xG0 hc hr xs g L c z) _
          refine Ex.ite (ls := [none, none, none]) (st := []) (S := xSt xG0 hc hr xs g L c z) (by rfl) (fun q9 => ?_) (fun q9 => ?_)
          · replace H := (if_pos q9).symm.trans H
            refine Ex.many (f' := (98, [none, none, none], [.int (0 : Int32)], xSt xG0 hc hr xs g L c z)) ?_ 1 (by rfl)
            subst H
            exact Ex.done (by rfl)
          · replace H := (if_neg q9).symm.trans H
            refine Ex.many (f' := (98, [none, none, none], [.int (1 : Int32)], xSt xG0 hc hr xs g L c z)) ?_ 2 (by rfl)
            subst H
            exact Ex.done (by rfl)
        · replace H := (if_neg q7).symm.trans H
          by_cases q10 : a0 = (74 : Int32)
          · replace H := (if_pos q10).symm.trans H
            refine Ex.sw (t := 99) (ls := [some (.int a0), some (.int a1), some (.int a2)]) (st := []) (S := xSt xG0 hc hr xs g L c z) ?_ (by rfl) (by rw [q10]; rfl)
            refine Ex.many (f' := (101, [none, some (.int a1), some (.int a2)], [.int a2, .int a1], xSt xG0 hc hr xs g L c z)) ?_ 2 (by rfl)
            refine Ex.ite (ls := [none, some (.int a1), some (.int a2)]) (st := []) (S := xSt xG0 hc hr xs g L c z) (by rfl) (fun q11 => ?_) (fun q11 => ?_)
            · replace H := (if_pos q11).symm.trans H
              refine Ex.many (f' := (109, [none, none, none], [.int (0 : Int32)], xSt xG0 hc hr xs g L c z)) ?_ 1 (by rfl)
              subst H
              exact Ex.done (by rfl)
            · replace H := (if_neg q11).symm.trans H
              refine Ex.many (f' := (109, [none, none, none], [.int (1 : Int32)], xSt xG0 hc hr xs g L c z)) ?_ 2 (by rfl)
              subst H
              exact Ex.done (by rfl)
          · replace H := (if_neg q10).symm.trans H
            by_cases q12 : a0 = (75 : Int32)
            · replace H := (if_pos q12).symm.trans H
              refine Ex.sw (t := 110) (ls := [some (.int a0), some (.int a1), some (.int a2)]) (st := []) (S := xSt xG0 hc hr xs g L c z) ?_ (by rfl) (by rw [q12]; rfl)
              refine Ex.many (f' := (112, [none, some (.int a1), some (.int a2)], [.int a2, .int a1], xSt xG0 hc hr xs g L c z)) ?_ 2 (by rfl)
              refine Ex.call (mk := 25) (vs := [.int a1, .int a2]) (rest := []) (by rfl) (by rfl) (Ex.up (T_i_compareUnsigned a1 a2 _ rfl) (by decide)) (xbb c z) ?_
              show Ex _ _ (115, [none, some (.int a1), some (.int a2)], [.int (f_i_compareUnsigned a1 a2)], xSt xG0 hc hr xs g L c z) _
              refine Ex.ite (ls := [none, none, none]) (st := []) (S := xSt xG0 hc hr xs g L c z) (by rfl) (fun q14 => ?_) (fun q14 => ?_)
              · replace H := (if_pos q14).symm.trans H
                refine Ex.many (f' := (123, [none, none, none], [.int (0 : Int32)], xSt xG0 hc hr xs g L c z)) ?_ 1 (by rfl)
                subst H
                exact Ex.done (by rfl)
              · replace H := (if_neg q14).symm.trans H
                refine Ex.many (f' := (123, [none, none, none], [.int (1 : Int32)], xSt xG0 hc hr xs g L c z)) ?_ 2 (by rfl)
                subst H
                exact Ex.done (by rfl)
            · replace H := (if_neg q12).symm.trans H
              by_cases q15 : a0 = (76 : Int32)
              · replace H := (if_pos q15).symm.trans H
                refine Ex.sw (t := 124) (ls := [some (.int a0), some (.int a1), some (.int a2)]) (st := []) (S := xSt xG0 hc hr xs g L c z) ?_ (by rfl) (by rw [q15]; rfl)
                refine Ex.many (f' := (126, [none, some (.int a1), some (.int a2)], [.int a2, .int a1], xSt xG0 hc hr xs g L c z)) ?_ 2 (by rfl)
                refine Ex.ite (ls := [none, some (.int a1), some (.int a2)]) (st := []) (S := xSt xG0 hc hr xs g L c z) (by rfl) (fun q16 => ?_) (fun q16 => ?_)
                · replace H := (if_pos q16).symm.trans H
                  refine Ex.many (f' := (134, [none, none, none], [.int (0 : Int32)], xSt xG0 hc hr xs g L c z)) ?_ 1 (by rfl)
                  subst H
                  exact Ex.done (by rfl)
                · replace H := (if_neg q16).symm.trans H
                  refine Ex.many (f' := (134, [none, none, none], [.int (1 : Int32)], xSt xG0 hc hr xs g L c z)) ?_ 2 (by rfl)
                  subst H
                  exact Ex.done (by rfl)
              · replace H := (if_neg q15).symm.trans H
                by_cases q17 : a0 = (77 : Int32)
                · replace H := (if_pos q17).symm.trans H
                  refine Ex.sw (t := 135) (ls := [some (.int a0), some (.int a1), some (.int a2)]) (st := []) (S := xSt xG0 hc hr xs g L c z) ?_ (by rfl) (by rw [q17]; rfl)
                  refine Ex.many (f' := (137, [none, some (.int a1), some (.int a2)], [.int a2, .int a1], xSt xG0 hc hr xs g L c z)) ?_ 2 (by rfl)
                  refine Ex.call (mk := 25) (vs := [.int a1, .int a2]) (rest := []) (by rfl) (by rfl) (Ex.up (T_i_compareUnsigned a1 a2 _ rfl) (by decide)) (xbb c z) ?_
                  show Ex _ _ (140, [none, some (.int a1), some (.int a2)], [.int (f_i_compareUnsigned a1 a2)], xSt xG0 hc hr xs g L c z) _
                  refine Ex.ite (ls := [none, none, none]) (st := []) (S := xSt xG0 hc hr xs g L c z) (by rfl) (fun q19 => ?_) (fun q19 => ?_)
                  · replace H := (if_pos q19).symm.trans H
                    refine Ex.many (f' := (148, [none, none, none], [.int (0 : Int32)], xSt xG0 hc hr xs g L c z)) ?_ 1 (by rfl)
                    subst H
                    exact Ex.done (by rfl)
                  · replace H := (if_neg q19).symm.trans H
                    refine Ex.many (f' := (148, [none, none, none], [.int (1 : Int32)], xSt xG0 hc hr xs g L c z)) ?_ 2 (by rfl)
                    subst H
                    exact Ex.done (by rfl)
                · replace H := (if_neg q17).symm.trans H
                  by_cases q20 : a0 = (78 : Int32)
                  · replace H := (if_pos q20).symm.trans H
                    refine Ex.sw (t := 149) (ls := [some (.int a0), some (.int a1), some (.int a2)]) (st := []) (S := xSt xG0 hc hr xs g L c z) ?_ (by rfl) (by rw [q20]; rfl)
                    refine Ex.many (f' := (151, [none, some (.int a1), some (.int a2)], [.int a2, .int a1], xSt xG0 hc hr xs g L c z)) ?_ 2 (by rfl)
                    refine Ex.ite (ls := [none, some (.int a1), some (.int a2)]) (st := []) (S := xSt xG0 hc hr xs g L c z) (by rfl) (fun q21 => ?_) (fun q21 => ?_)
                    · replace H := (if_pos q21).symm.trans H
                      refine Ex.many (f' := (159, [none, none, none], [.int (0 : Int32)], xSt xG0 hc hr xs g L c z)) ?_ 1 (by rfl)
                      subst H
                      exact Ex.done (by rfl)
                    · replace H := (if_neg q21).symm.trans H
                      refine Ex.many (f' := (159, [none, none, none], [.int (1 : Int32)], xSt xG0 hc hr xs g L c z)) ?_ 2 (by rfl)
                      subst H
                      exact Ex.done (by rfl)
                  · replace H := (if_neg q20).symm.trans H
                    refine Ex.sw (t := 160) (ls := [some (.int a0), some (.int a1), some (.int a2)]) (st := []) (S := xSt xG0 hc hr xs g L c z) ?_ (by rfl) (xtsw_d [(70 : Int32), (71 : Int32), (72 : Int32), (73 : Int32), (74 : Int32), (75 : Int32), (76 : Int32), (77 : Int32), (78 : Int32)] (by decide +kernel) (by decide +kernel) (List.forall_mem_cons.mpr ⟨fun e => q1 e, (List.forall_mem_cons.mpr ⟨fun e => q3 e, (List.forall_mem_cons.mpr ⟨fun e => q5 e, (List.forall_mem_cons.mpr ⟨fun e => q7 e, (List.forall_mem_cons.mpr ⟨fun e => q10 e, (List.forall_mem_cons.mpr ⟨fun e => q12 e, (List.forall_mem_cons.mpr ⟨fun e => q15 e, (List.forall_mem_cons.mpr ⟨fun e => q17 e, (List.forall_mem_cons.mpr ⟨fun e => q20 e, (fun _ h => absurd h List.not_mem_nil)⟩)⟩)⟩)⟩)⟩)⟩)⟩)⟩)⟩))
                    refine Ex.many (f' := (162, [none, some (.int a1), some (.int a2)], [.int a2, .int a1], xSt xG0 hc hr xs g L c z)) ?_ 2 (by rfl)
                    refine Ex.call (mk := 25) (vs := [.int a1, .int a2]) (rest := []) (by rfl) (by rfl) (Ex.up (T_i_compareUnsigned a1 a2 _ rfl) (by decide)) (xbb c z) ?_
                    show Ex _ _ (165, [none, some (.int a1), some (.int a2)], [.int (f_i_compareUnsigned a1 a2)], xSt xG0 hc hr xs g L c z) _
                    refine Ex.ite (ls := [none, none, none]) (st := []) (S := xSt xG0 hc hr xs g L c z) (by rfl) (fun q23 => ?_) (fun q23 => ?_)
                    · replace H := (if_pos q23).symm.trans H
                      refine Ex.many (f' := (173, [none, none, none], [.int (0 : Int32)], xSt xG0 hc hr xs g L c z)) ?_ 1 (by rfl)
                      subst H
                      exact Ex.done (by rfl)
                    · replace H := (if_neg q23).symm.trans H
                      refine Ex.many (f' := (173, [none, none, none], [.int (1 : Int32)], xSt xG0 hc hr xs g L c z)) ?_ 2 (by rfl)
                      subst H
                      exact Ex.done (by rfl)
def f_n_compared (a0 : Int32) (a1 : Int32) (a2 : Int32) : Int32 :=
  if (f_n_isTrue a0 a1 a2) = 0 then (0 : Int32) else (1 : Int32)
theorem T_n_compared {hc : xI} {hr : xI} {g : xJ} {xs : Nat → Int32} {L c z : Nat} (a0 : Int32) (a1 : Int32) (a2 : Int32) (r : Int32) (H : f_n_compared a0 a1 a2 = r) : Ex 3 54 (0, [some (.int a0), some (.int a1), some (.int a2)], [], xSt xG0 hc hr xs g L c z) (.inl (some (.int r)), xSt xG0 hc hr xs g L c z) := by
  unfold f_n_compared at H
  refine Ex.many (f' := (3, [some (.int a0), some (.int a1), some (.int a2)], [.int a2, .int a1, .int a0], xSt xG0 hc hr xs g L c z)) ?_ 3 (by rfl)
  refine Ex.call (mk := 55) (vs := [.int a0, .int a1, .int a2]) (rest := []) (by rfl) (by rfl) (Ex.up (T_n_isTrue a0 a1 a2 _ rfl) (by decide)) (xbb c z) ?_
  show Ex _ _ (6, [some (.int a0), some (.int a1), some (.int a2)], [.int (f_n_isTrue a0 a1 a2)], xSt xG0 hc hr xs g L c z) _
  refine Ex.ite (ls := [none, none, none]) (st := []) (S := xSt xG0 hc hr xs g L c z) (by rfl) (fun q2 => ?_) (fun q2 => ?_)
  · replace H := (if_pos q2).symm.trans H
    refine Ex.many (f' := (14, [none, none, none], [.int (0 : Int32)], xSt xG0 hc hr xs g L c z)) ?_ 1 (by rfl)
    subst H
    exact Ex.done (by rfl)
  · replace H := (if_neg q2).symm.trans H
    refine Ex.many (f' := (14, [none, none, none], [.int (1 : Int32)], xSt xG0 hc hr xs g L c z)) ?_ 2 (by rfl)
    subst H
    exact Ex.done (by rfl)
def f_i_toUnsignedLong (a0 : Int32) : Int64 :=
  (a0.toInt64 &&& (4294967295 : Int64))
theorem T_i_toUnsignedLong {hc : xI} {hr : xI} {g : xJ} {xs : Nat → Int32} {L c z : Nat} (a0 : Int32) (r : Int64) (H : f_i_toUnsignedLong a0 = r) : Ex 0 39 (0, [some (.int a0)], [], xSt xG0 hc hr xs g L c z) (.inl (some (.long r)), xSt xG0 hc hr xs g L c z) := by
  unfold f_i_toUnsignedLong at H
  refine Ex.many (f' := (6, [some (.int a0)], [.long (a0.toInt64 &&& (4294967295 : Int64))], xSt xG0 hc hr xs g L c z)) ?_ 4 (by rfl)
  subst H
  exact Ex.done (by rfl)
def f_n_divided (a0 : Int32) (a1 : Int32) (a2 : Int32) : Option Int32 :=
  if a2 = 0 then (some (0 : Int32)) else (if a0 = (109 : Int32) then (xdz a2 (some (a1 / a2))) else (if a0 = (110 : Int32) then (xdzL (f_i_toUnsignedLong a2) (some (((f_i_toUnsignedLong a1) / (f_i_toUnsignedLong a2)).toInt32))) else (if a0 = (111 : Int32) then (xdz a2 (some (a1 - a1 / a2 * a2))) else (xdzL (f_i_toUnsignedLong a2) (some (((f_i_toUnsignedLong a1) - (f_i_toUnsignedLong a1) / (f_i_toUnsignedLong a2) * (f_i_toUnsignedLong a2)).toInt32))))))
theorem T_n_divided {hc : xI} {hr : xI} {g : xJ} {xs : Nat → Int32} {L c z : Nat} (a0 : Int32) (a1 : Int32) (a2 : Int32) (r : Int32) (H : f_n_divided a0 a1 a2 = some r) : Ex 1 52 (0, [some (.int a0), some (.int a1), some (.int a2)], [], xSt xG0 hc hr xs g L c z) (.inl (some (.int r)), xSt xG0 hc hr xs g L c z) := by
  unfold f_n_divided at H
  refine Ex.many (f' := (1, [some (.int a0), some (.int a1), some (.int a2)], [.int a2], xSt xG0 hc hr xs g L c z)) ?_ 1 (by rfl)
  refine Ex.ite (ls := [some (.int a0), some (.int a1), some (.int a2)]) (st := []) (S := xSt xG0 hc hr xs g L c z) (by rfl) (fun q1 => ?_) (fun q1 => ?_)
  · replace H := (if_pos q1).symm.trans H
    refine Ex.many (f' := (5, [none, none, none], [.int (0 : Int32)], xSt xG0 hc hr xs g L c z)) ?_ 1 (by rfl)
    cases H
    exact Ex.done (by rfl)
  · replace H := (if_neg q1).symm.trans H
    refine Ex.many (f' := (7, [some (.int a0), some (.int a1), some (.int a2)], [.int a0], xSt xG0 hc hr xs g L c z)) ?_ 1 (by rfl)
    by_cases q2 : a0 = (109 : Int32)
    · replace H := (if_pos q2).symm.trans H
      refine Ex.sw (t := 32) (ls := [some (.int a0), some (.int a1), some (.int a2)]) (st := []) (S := xSt xG0 hc hr xs g L c z) ?_ (by rfl) (by rw [q2]; rfl)
      refine Ex.many (f' := (34, [none, some (.int a1), some (.int a2)], [.int a2, .int a1], xSt xG0 hc hr xs g L c z)) ?_ 2 (by rfl)
      obtain ⟨g3, H⟩ := xdz_some H
      refine Ex.div (f' := (35, [none, some (.int a1), some (.int a2)], [.int (a1 / a2)], xSt xG0 hc hr xs g L c z)) ?_ g3 (by rfl)
      cases H
      exact Ex.done (by rfl)
    · replace H := (if_neg q2).symm.trans H
      by_cases q4 : a0 = (110 : Int32)
      · replace H := (if_pos q4).symm.trans H
        refine Ex.sw (t := 40) (ls := [some (.int a0), some (.int a1), some (.int a2)]) (st := []) (S := xSt xG0 hc hr xs g L c z) ?_ (by rfl) (by rw [q4]; rfl)
        refine Ex.many (f' := (41, [none, some (.int a1), some (.int a2)], [.int a1], xSt xG0 hc hr xs g L c z)) ?_ 1 (by rfl)
        refine Ex.call (mk := 39) (vs := [.int a1]) (rest := []) (by rfl) (by rfl) (Ex.up (T_i_toUnsignedLong a1 _ rfl) (by decide)) (xbb c z) ?_
        show Ex _ _ (44, [none, some (.int a1), some (.int a2)], [.long (f_i_toUnsignedLong a1)], xSt xG0 hc hr xs g L c z) _
        refine Ex.many (f' := (45, [none, none, some (.int a2)], [.int a2, .long (f_i_toUnsignedLong a1)], xSt xG0 hc hr xs g L c z)) ?_ 1 (by rfl)
        refine Ex.call (mk := 39) (vs := [.int a2]) (rest := [.long (f_i_toUnsignedLong a1)]) (by rfl) (by rfl) (Ex.up (T_i_toUnsignedLong a2 _ rfl) (by decide)) (xbb c z) ?_
        show Ex _ _ (48, [none, none, some (.int a2)], [.long (f_i_toUnsignedLong a2), .long (f_i_toUnsignedLong a1)], xSt xG0 hc hr xs g L c z) _
        obtain ⟨g7, H⟩ := xdzL_some H
        refine Ex.divL (f' := (49, [none, none, none], [.long ((f_i_toUnsignedLong a1) / (f_i_toUnsignedLong a2))], xSt xG0 hc hr xs g L c z)) ?_ g7 (by rfl)
        refine Ex.many (f' := (50, [none, none, none], [.int ((f_i_toUnsignedLong a1) / (f_i_toUnsignedLong a2)).toInt32], xSt xG0 hc hr xs g L c z)) ?_ 1 (by rfl)
        cases H
        exact Ex.done (by rfl)
      · replace H := (if_neg q4).symm.trans H
        by_cases q8 : a0 = (111 : Int32)
        · replace H := (if_pos q8).symm.trans H
          refine Ex.sw (t := 36) (ls := [some (.int a0), some (.int a1), some (.int a2)]) (st := []) (S := xSt xG0 hc hr xs g L c z) ?_ (by rfl) (by rw [q8]; rfl)
          refine Ex.many (f' := (38, [none, some (.int a1), some (.int a2)], [.int a2, .int a1], xSt xG0 hc hr xs g L c z)) ?_ 2 (by rfl)
          obtain ⟨g9, H⟩ := xdz_some H
          refine Ex.div (f' := (39, [none, some (.int a1), some (.int a2)], [.int (a1 - a1 / a2 * a2)], xSt xG0 hc hr xs g L c z)) ?_ g9 (by rfl)
          cases H
          exact Ex.done (by rfl)
        · replace H := (if_neg q8).symm.trans H
          refine Ex.sw (t := 51) (ls := [some (.int a0), some (.int a1), some (.int a2)]) (st := []) (S := xSt xG0 hc hr xs g L c z) ?_ (by rfl) (xtsw_d [(109 : Int32), (110 : Int32), (111 : Int32)] (by decide +kernel) (by decide +kernel) (List.forall_mem_cons.mpr ⟨fun e => q2 e, (List.forall_mem_cons.mpr ⟨fun e => q4 e, (List.forall_mem_cons.mpr ⟨fun e => q8 e, (fun _ h => absurd h List.not_mem_nil)⟩)⟩)⟩))
          refine Ex.many (f' := (52, [none, some (.int a1), some (.int a2)], [.int a1], xSt xG0 hc hr xs g L c z)) ?_ 1 (by rfl)
          refine Ex.call (mk := 39) (vs := [.int a1]) (rest := []) (by rfl) (by rfl) (Ex.up (T_i_toUnsignedLong a1 _ rfl) (by decide)) (xbb c z) ?_
          show Ex _ _ (55, [none, some (.int a1), some (.int a2)], [.long (f_i_toUnsignedLong a1)], xSt xG0 hc hr xs g L c z) _
          refine Ex.many (f' := (56, [none, none, some (.int a2)], [.int a2, .long (f_i_toUnsignedLong a1)], xSt xG0 hc hr xs g L c z)) ?_ 1 (by rfl)
          refine Ex.call (mk := 39) (vs := [.int a2]) (rest := [.long (f_i_toUnsignedLong a1)]) (by rfl) (by rfl) (Ex.up (T_i_toUnsignedLong a2 _ rfl) (by decide)) (xbb c z) ?_
          show Ex _ _ (59, [none, none, some (.int a2)], [.long (f_i_toUnsignedLong a2), .long (f_i_toUnsignedLong a1)], xSt xG0 hc hr xs g L c z) _
          obtain ⟨g12, H⟩ := xdzL_some H
          refine Ex.divL (f' := (60, [none, none, none], [.long ((f_i_toUnsignedLong a1) - (f_i_toUnsignedLong a1) / (f_i_toUnsignedLong a2) * (f_i_toUnsignedLong a2))], xSt xG0 hc hr xs g L c z)) ?_ g12 (by rfl)
          refine Ex.many (f' := (61, [none, none, none], [.int ((f_i_toUnsignedLong a1) - (f_i_toUnsignedLong a1) / (f_i_toUnsignedLong a2) * (f_i_toUnsignedLong a2)).toInt32], xSt xG0 hc hr xs g L c z)) ?_ 1 (by rfl)
          cases H
          exact Ex.done (by rfl)
def f_h_divide_25 (v1 : Int32) (v2 : Int32) (v3 : Int32) (hc : xI) : Option (Int32 × xI) :=
  (f_n_divided v1 v2 v3).bind fun q1 => (f_h_replaceTwo q1 hc).bind fun q2 => some (q2.1, q2.2)
theorem T_h_divide_25 {hr : xI} {g : xJ} {xs : Nat → Int32} {L c z : Nat} (v1 : Int32) (v2 : Int32) (v3 : Int32) (hc : xI) (r : (Int32 × xI)) (H : f_h_divide_25 v1 v2 v3 hc = some r) : Ex 2 51 (25, [some (.ref 19), some (.int v1), some (.int v2), some (.int v3)], [], xSt xG0 hc hr xs g L c z) (.inl (some (.int r.1)), xSt xG0 r.2 hr xs g L c z) := by
  unfold f_h_divide_25 at H
  refine Ex.many (f' := (29, [some (.ref 19), some (.int v1), some (.int v2), some (.int v3)], [.int v3, .int v2, .int v1, .ref 19], xSt xG0 hc hr xs g L c z)) ?_ 4 (by rfl)
  obtain ⟨q1, hq1, H⟩ := xbd H
  refine Ex.call (mk := 52) (vs := [.int v1, .int v2, .int v3]) (rest := [.ref 19]) (by rfl) (by rfl) (Ex.up (T_n_divided v1 v2 v3 q1 hq1) (by decide)) (xbb c z) ?_
  show Ex _ _ (32, [some (.ref 19), some (.int v1), some (.int v2), some (.int v3)], [.int q1, .ref 19], xSt xG0 hc hr xs g L c z) _
  obtain ⟨q2, hq2, H⟩ := xbd H
  refine Ex.call (mk := 53) (vs := [.ref 19, .int q1]) (rest := []) (by rfl) (by rfl) (Ex.up (T_h_replaceTwo q1 hc q2 hq2) (by decide)) (xbb c z) ?_
  show Ex _ _ (35, [none, none, none, none], [.int q2.1], xSt xG0 q2.2 hr xs g L c z) _
  cases H
  exact Ex.done (by rfl)
def f_h_divide (a1 : Int32) (a2 : Int32) (a3 : Int32) (hc : xI) : Option (Int32 × xI) :=
  if a3 = 0 then (some ((2 : Int32), hc)) else (if a1 = (109 : Int32) then (if a2 = (-2147483648 : Int32) then (if a3 = (-1 : Int32) then (some ((3 : Int32), hc)) else (f_h_divide_25 a1 a2 a3 hc)) else (f_h_divide_25 a1 a2 a3 hc)) else (f_h_divide_25 a1 a2 a3 hc))
theorem T_h_divide {hr : xI} {g : xJ} {xs : Nat → Int32} {L c z : Nat} (a1 : Int32) (a2 : Int32) (a3 : Int32) (hc : xI) (r : (Int32 × xI)) (H : f_h_divide a1 a2 a3 hc = some r) : Ex 2 51 (0, [some (.ref 19), some (.int a1), some (.int a2), some (.int a3)], [], xSt xG0 hc hr xs g L c z) (.inl (some (.int r.1)), xSt xG0 r.2 hr xs g L c z) := by
  unfold f_h_divide at H
  refine Ex.many (f' := (1, [some (.ref 19), some (.int a1), some (.int a2), some (.int a3)], [.int a3], xSt xG0 hc hr xs g L c z)) ?_ 1 (by rfl)
  refine Ex.ite (ls := [some (.ref 19), some (.int a1), some (.int a2), some (.int a3)]) (st := []) (S := xSt xG0 hc hr xs g L c z) (by rfl) (fun q1 => ?_) (fun q1 => ?_)
  · replace H := (if_pos q1).symm.trans H
    refine Ex.many (f' := (5, [none, none, none, none], [.int (2 : Int32)], xSt xG0 hc hr xs g L c z)) ?_ 1 (by rfl)
    cases H
    exact Ex.done (by rfl)
  · replace H := (if_neg q1).symm.trans H
    refine Ex.many (f' := (9, [some (.ref 19), some (.int a1), some (.int a2), some (.int a3)], [.int (109 : Int32), .int a1], xSt xG0 hc hr xs g L c z)) ?_ 2 (by rfl)
    refine Ex.ite (ls := [some (.ref 19), some (.int a1), some (.int a2), some (.int a3)]) (st := []) (S := xSt xG0 hc hr xs g L c z) (by rfl) (fun q2 => ?_) (fun q2 => ?_)
    · replace H := (if_pos q2).symm.trans H
      refine Ex.many (f' := (15, [some (.ref 19), some (.int a1), some (.int a2), some (.int a3)], [.int (-2147483648 : Int32), .int a2], xSt xG0 hc hr xs g L c z)) ?_ 2 (by rfl)
      refine Ex.ite (ls := [some (.ref 19), some (.int a1), some (.int a2), some (.int a3)]) (st := []) (S := xSt xG0 hc hr xs g L c z) (by rfl) (fun q3 => ?_) (fun q3 => ?_)
      · replace H := (if_pos q3).symm.trans H
        refine Ex.many (f' := (20, [some (.ref 19), some (.int a1), some (.int a2), some (.int a3)], [.int (-1 : Int32), .int a3], xSt xG0 hc hr xs g L c z)) ?_ 2 (by rfl)
        refine Ex.ite (ls := [some (.ref 19), some (.int a1), some (.int a2), some (.int a3)]) (st := []) (S := xSt xG0 hc hr xs g L c z) (by rfl) (fun q4 => ?_) (fun q4 => ?_)
        · replace H := (if_pos q4).symm.trans H
          refine Ex.many (f' := (24, [none, none, none, none], [.int (3 : Int32)], xSt xG0 hc hr xs g L c z)) ?_ 1 (by rfl)
          cases H
          exact Ex.done (by rfl)
        · replace H := (if_neg q4).symm.trans H
          exact T_h_divide_25 a1 a2 a3 hc r H
      · replace H := (if_neg q3).symm.trans H
        exact T_h_divide_25 a1 a2 a3 hc r H
    · replace H := (if_neg q2).symm.trans H
      exact T_h_divide_25 a1 a2 a3 hc r H
def f_i_numberOfLeadingZeros_73 (v0 : Int32) (v1 : Int32) : Int32 :=
  (v1 - (xushr v0 (1 : Int32)))
theorem T_i_numberOfLeadingZeros_73 {hc : xI} {hr : xI} {g : xJ} {xs : Nat → Int32} {L c z : Nat} (v0 : Int32) (v1 : Int32) (r : Int32) (H : f_i_numberOfLeadingZeros_73 v0 v1 = r) : Ex 0 47 (73, [some (.int v0), some (.int v1)], [], xSt xG0 hc hr xs g L c z) (.inl (some (.int r)), xSt xG0 hc hr xs g L c z) := by
  unfold f_i_numberOfLeadingZeros_73 at H
  refine Ex.many (f' := (78, [some (.int v0), some (.int v1)], [.int (v1 - (xushr v0 (1 : Int32)))], xSt xG0 hc hr xs g L c z)) ?_ 5 (by rfl)
  subst H
  exact Ex.done (by rfl)
def f_i_numberOfLeadingZeros_61 (v0 : Int32) (v1 : Int32) : Int32 :=
  if v0 < (4 : Int32) then (f_i_numberOfLeadingZeros_73 v0 v1) else (f_i_numberOfLeadingZeros_73 (xushr v0 (2 : Int32)) (v1 + (-2 : Int32)))
theorem T_i_numberOfLeadingZeros_61 {hc : xI} {hr : xI} {g : xJ} {xs : Nat → Int32} {L c z : Nat} (v0 : Int32) (v1 : Int32) (r : Int32) (H : f_i_numberOfLeadingZeros_61 v0 v1 = r) : Ex 0 47 (61, [some (.int v0), some (.int v1)], [], xSt xG0 hc hr xs g L c z) (.inl (some (.int r)), xSt xG0 hc hr xs g L c z) := by
  unfold f_i_numberOfLeadingZeros_61 at H
  refine Ex.many (f' := (63, [some (.int v0), some (.int v1)], [.int (4 : Int32), .int v0], xSt xG0 hc hr xs g L c z)) ?_ 2 (by rfl)
  refine Ex.ite (ls := [some (.int v0), some (.int v1)]) (st := []) (S := xSt xG0 hc hr xs g L c z) (by rfl) (fun q1 => ?_) (fun q1 => ?_)
  · replace H := (if_pos q1).symm.trans H
    exact T_i_numberOfLeadingZeros_73 v0 v1 r H
  · replace H := (if_neg q1).symm.trans H
    refine Ex.many (f' := (73, [some (.int (xushr v0 (2 : Int32))), some (.int (v1 + (-2 : Int32)))], [], xSt xG0 hc hr xs g L c z)) ?_ 5 (by rfl)
    exact T_i_numberOfLeadingZeros_73 (xushr v0 (2 : Int32)) (v1 + (-2 : Int32)) r H
def f_i_numberOfLeadingZeros_48 (v0 : Int32) (v1 : Int32) : Int32 :=
  if v0 < (16 : Int32) then (f_i_numberOfLeadingZeros_61 v0 v1) else (f_i_numberOfLeadingZeros_61 (xushr v0 (4 : Int32)) (v1 + (-4 : Int32)))
theorem T_i_numberOfLeadingZeros_48 {hc : xI} {hr : xI} {g : xJ} {xs : Nat → Int32} {L c z : Nat} (v0 : Int32) (v1 : Int32) (r : Int32) (H : f_i_numberOfLeadingZeros_48 v0 v1 = r) : Ex 0 47 (48, [some (.int v0), some (.int v1)], [], xSt xG0 hc hr xs g L c z) (.inl (some (.int r)), xSt xG0 hc hr xs g L c z) := by
  unfold f_i_numberOfLeadingZeros_48 at H
  refine Ex.many (f' := (51, [some (.int v0), some (.int v1)], [.int (16 : Int32), .int v0], xSt xG0 hc hr xs g L c z)) ?_ 2 (by rfl)
  refine Ex.ite (ls := [some (.int v0), some (.int v1)]) (st := []) (S := xSt xG0 hc hr xs g L c z) (by rfl) (fun q1 => ?_) (fun q1 => ?_)
  · replace H := (if_pos q1).symm.trans H
    exact T_i_numberOfLeadingZeros_61 v0 v1 r H
  · replace H := (if_neg q1).symm.trans H
    refine Ex.many (f' := (61, [some (.int (xushr v0 (4 : Int32))), some (.int (v1 + (-4 : Int32)))], [], xSt xG0 hc hr xs g L c z)) ?_ 5 (by rfl)
    exact T_i_numberOfLeadingZeros_61 (xushr v0 (4 : Int32)) (v1 + (-4 : Int32)) r H
def f_i_numberOfLeadingZeros_33 (v0 : Int32) (v1 : Int32) : Int32 :=
  if v0 < (256 : Int32) then (f_i_numberOfLeadingZeros_48 v0 v1) else (f_i_numberOfLeadingZeros_48 (xushr v0 (8 : Int32)) (v1 + (-8 : Int32)))
theorem T_i_numberOfLeadingZeros_33 {hc : xI} {hr : xI} {g : xJ} {xs : Nat → Int32} {L c z : Nat} (v0 : Int32) (v1 : Int32) (r : Int32) (H : f_i_numberOfLeadingZeros_33 v0 v1 = r) : Ex 0 47 (33, [some (.int v0), some (.int v1)], [], xSt xG0 hc hr xs g L c z) (.inl (some (.int r)), xSt xG0 hc hr xs g L c z) := by
  unfold f_i_numberOfLeadingZeros_33 at H
  refine Ex.many (f' := (37, [some (.int v0), some (.int v1)], [.int (256 : Int32), .int v0], xSt xG0 hc hr xs g L c z)) ?_ 2 (by rfl)
  refine Ex.ite (ls := [some (.int v0), some (.int v1)]) (st := []) (S := xSt xG0 hc hr xs g L c z) (by rfl) (fun q1 => ?_) (fun q1 => ?_)
  · replace H := (if_pos q1).symm.trans H
    exact T_i_numberOfLeadingZeros_48 v0 v1 r H
  · replace H := (if_neg q1).symm.trans H
    refine Ex.many (f' := (48, [some (.int (xushr v0 (8 : Int32))), some (.int (v1 + (-8 : Int32)))], [], xSt xG0 hc hr xs g L c z)) ?_ 5 (by rfl)
    exact T_i_numberOfLeadingZeros_48 (xushr v0 (8 : Int32)) (v1 + (-8 : Int32)) r H
def f_i_numberOfLeadingZeros (a0 : Int32) : Int32 :=
  if 0 < a0 then (if a0 < (65536 : Int32) then (f_i_numberOfLeadingZeros_33 a0 (31 : Int32)) else (f_i_numberOfLeadingZeros_33 (xushr a0 (16 : Int32)) ((31 : Int32) + (-16 : Int32)))) else (if a0 = 0 then (32 : Int32) else (0 : Int32))
theorem T_i_numberOfLeadingZeros {hc : xI} {hr : xI} {g : xJ} {xs : Nat → Int32} {L c z : Nat} (a0 : Int32) (r : Int32) (H : f_i_numberOfLeadingZeros a0 = r) : Ex 0 47 (0, [some (.int a0), none], [], xSt xG0 hc hr xs g L c z) (.inl (some (.int r)), xSt xG0 hc hr xs g L c z) := by
  unfold f_i_numberOfLeadingZeros at H
  refine Ex.many (f' := (1, [some (.int a0), none], [.int a0], xSt xG0 hc hr xs g L c z)) ?_ 1 (by rfl)
  refine Ex.ite (ls := [some (.int a0), none]) (st := []) (S := xSt xG0 hc hr xs g L c z) (by rfl) (fun q1 => ?_) (fun q1 => ?_)
  · replace H := (if_pos q1).symm.trans H
    refine Ex.many (f' := (22, [some (.int a0), some (.int (31 : Int32))], [.int (65536 : Int32), .int a0], xSt xG0 hc hr xs g L c z)) ?_ 4 (by rfl)
    refine Ex.ite (ls := [some (.int a0), some (.int (31 : Int32))]) (st := []) (S := xSt xG0 hc hr xs g L c z) (by rfl) (fun q2 => ?_) (fun q2 => ?_)
    · replace H := (if_pos q2).symm.trans H
      exact T_i_numberOfLeadingZeros_33 a0 (31 : Int32) r H
    · replace H := (if_neg q2).symm.trans H
      refine Ex.many (f' := (33, [some (.int (xushr a0 (16 : Int32))), some (.int ((31 : Int32) + (-16 : Int32)))], [], xSt xG0 hc hr xs g L c z)) ?_ 5 (by rfl)
      exact T_i_numberOfLeadingZeros_33 (xushr a0 (16 : Int32)) ((31 : Int32) + (-16 : Int32)) r H
  · replace H := (if_neg q1).symm.trans H
    refine Ex.many (f' := (5, [some (.int a0), none], [.int a0], xSt xG0 hc hr xs g L c z)) ?_ 1 (by rfl)
    refine Ex.ite (ls := [some (.int a0), none]) (st := []) (S := xSt xG0 hc hr xs g L c z) (by rfl) (fun q3 => ?_) (fun q3 => ?_)
    · replace H := (if_pos q3).symm.trans H
      refine Ex.many (f' := (14, [none, none], [.int (32 : Int32)], xSt xG0 hc hr xs g L c z)) ?_ 2 (by rfl)
      subst H
      exact Ex.done (by rfl)
    · replace H := (if_neg q3).symm.trans H
      refine Ex.many (f' := (14, [none, none], [.int (0 : Int32)], xSt xG0 hc hr xs g L c z)) ?_ 1 (by rfl)
      subst H
      exact Ex.done (by rfl)
def f_i_numberOfTrailingZeros_74 (v0 : Int32) (v1 : Int32) : Int32 :=
  (v1 + (xushr v0 (1 : Int32)))
theorem T_i_numberOfTrailingZeros_74 {hc : xI} {hr : xI} {g : xJ} {xs : Nat → Int32} {L c z : Nat} (v0 : Int32) (v1 : Int32) (r : Int32) (H : f_i_numberOfTrailingZeros_74 v0 v1 = r) : Ex 0 48 (74, [some (.int v0), some (.int v1)], [], xSt xG0 hc hr xs g L c z) (.inl (some (.int r)), xSt xG0 hc hr xs g L c z) := by
  unfold f_i_numberOfTrailingZeros_74 at H
  refine Ex.many (f' := (79, [some (.int v0), some (.int v1)], [.int (v1 + (xushr v0 (1 : Int32)))], xSt xG0 hc hr xs g L c z)) ?_ 5 (by rfl)
  subst H
  exact Ex.done (by rfl)
def f_i_numberOfTrailingZeros_62 (v0 : Int32) (v1 : Int32) : Int32 :=
  if v0 ≤ (4 : Int32) then (f_i_numberOfTrailingZeros_74 v0 v1) else (f_i_numberOfTrailingZeros_74 (xushr v0 (2 : Int32)) (v1 + (2 : Int32)))
theorem T_i_numberOfTrailingZeros_62 {hc : xI} {hr : xI} {g : xJ} {xs : Nat → Int32} {L c z : Nat} (v0 : Int32) (v1 : Int32) (r : Int32) (H : f_i_numberOfTrailingZeros_62 v0 v1 = r) : Ex 0 48 (62, [some (.int v0), some (.int v1)], [], xSt xG0 hc hr xs g L c z) (.inl (some (.int r)), xSt xG0 hc hr xs g L c z) := by
  unfold f_i_numberOfTrailingZeros_62 at H
  refine Ex.many (f' := (64, [some (.int v0), some (.int v1)], [.int (4 : Int32), .int v0], xSt xG0 hc hr xs g L c z)) ?_ 2 (by rfl)
  refine Ex.ite (ls := [some (.int v0), some (.int v1)]) (st := []) (S := xSt xG0 hc hr xs g L c z) (by rfl) (fun q1 => ?_) (fun q1 => ?_)
  · replace H := (if_pos q1).symm.trans H
    exact T_i_numberOfTrailingZeros_74 v0 v1 r H
  · replace H := (if_neg q1).symm.trans H
    refine Ex.many (f' := (74, [some (.int (xushr v0 (2 : Int32))), some (.int (v1 + (2 : Int32)))], [], xSt xG0 hc hr xs g L c z)) ?_ 5 (by rfl)
    exact T_i_numberOfTrailingZeros_74 (xushr v0 (2 : Int32)) (v1 + (2 : Int32)) r H
def f_i_numberOfTrailingZeros_49 (v0 : Int32) (v1 : Int32) : Int32 :=
  if v0 ≤ (16 : Int32) then (f_i_numberOfTrailingZeros_62 v0 v1) else (f_i_numberOfTrailingZeros_62 (xushr v0 (4 : Int32)) (v1 + (4 : Int32)))
theorem T_i_numberOfTrailingZeros_49 {hc : xI} {hr : xI} {g : xJ} {xs : Nat → Int32} {L c z : Nat} (v0 : Int32) (v1 : Int32) (r : Int32) (H : f_i_numberOfTrailingZeros_49 v0 v1 = r) : Ex 0 48 (49, [some (.int v0), some (.int v1)], [], xSt xG0 hc hr xs g L c z) (.inl (some (.int r)), xSt xG0 hc hr xs g L c z) := by
  unfold f_i_numberOfTrailingZeros_49 at H
  refine Ex.many (f' := (52, [some (.int v0), some (.int v1)], [.int (16 : Int32), .int v0], xSt xG0 hc hr xs g L c z)) ?_ 2 (by rfl)
  refine Ex.ite (ls := [some (.int v0), some (.int v1)]) (st := []) (S := xSt xG0 hc hr xs g L c z) (by rfl) (fun q1 => ?_) (fun q1 => ?_)
  · replace H := (if_pos q1).symm.trans H
    exact T_i_numberOfTrailingZeros_62 v0 v1 r H
  · replace H := (if_neg q1).symm.trans H
    refine Ex.many (f' := (62, [some (.int (xushr v0 (4 : Int32))), some (.int (v1 + (4 : Int32)))], [], xSt xG0 hc hr xs g L c z)) ?_ 5 (by rfl)
    exact T_i_numberOfTrailingZeros_62 (xushr v0 (4 : Int32)) (v1 + (4 : Int32)) r H
def f_i_numberOfTrailingZeros_34 (v0 : Int32) (v1 : Int32) : Int32 :=
  if v0 ≤ (256 : Int32) then (f_i_numberOfTrailingZeros_49 v0 v1) else (f_i_numberOfTrailingZeros_49 (xushr v0 (8 : Int32)) (v1 + (8 : Int32)))
theorem T_i_numberOfTrailingZeros_34 {hc : xI} {hr : xI} {g : xJ} {xs : Nat → Int32} {L c z : Nat} (v0 : Int32) (v1 : Int32) (r : Int32) (H : f_i_numberOfTrailingZeros_34 v0 v1 = r) : Ex 0 48 (34, [some (.int v0), some (.int v1)], [], xSt xG0 hc hr xs g L c z) (.inl (some (.int r)), xSt xG0 hc hr xs g L c z) := by
  unfold f_i_numberOfTrailingZeros_34 at H
  refine Ex.many (f' := (38, [some (.int v0), some (.int v1)], [.int (256 : Int32), .int v0], xSt xG0 hc hr xs g L c z)) ?_ 2 (by rfl)
  refine Ex.ite (ls := [some (.int v0), some (.int v1)]) (st := []) (S := xSt xG0 hc hr xs g L c z) (by rfl) (fun q1 => ?_) (fun q1 => ?_)
  · replace H := (if_pos q1).symm.trans H
    exact T_i_numberOfTrailingZeros_49 v0 v1 r H
  · replace H := (if_neg q1).symm.trans H
    refine Ex.many (f' := (49, [some (.int (xushr v0 (8 : Int32))), some (.int (v1 + (8 : Int32)))], [], xSt xG0 hc hr xs g L c z)) ?_ 5 (by rfl)
    exact T_i_numberOfTrailingZeros_49 (xushr v0 (8 : Int32)) (v1 + (8 : Int32)) r H
def f_i_numberOfTrailingZeros (a0 : Int32) : Int32 :=
  if 0 < ((a0 ^^^ (-1 : Int32)) &&& (a0 - (1 : Int32))) then (if ((a0 ^^^ (-1 : Int32)) &&& (a0 - (1 : Int32))) ≤ (65536 : Int32) then (f_i_numberOfTrailingZeros_34 ((a0 ^^^ (-1 : Int32)) &&& (a0 - (1 : Int32))) (1 : Int32)) else (f_i_numberOfTrailingZeros_34 (xushr ((a0 ^^^ (-1 : Int32)) &&& (a0 - (1 : Int32))) (16 : Int32)) ((1 : Int32) + (16 : Int32)))) else (((a0 ^^^ (-1 : Int32)) &&& (a0 - (1 : Int32))) &&& (32 : Int32))
theorem T_i_numberOfTrailingZeros {hc : xI} {hr : xI} {g : xJ} {xs : Nat → Int32} {L c z : Nat} (a0 : Int32) (r : Int32) (H : f_i_numberOfTrailingZeros a0 = r) : Ex 0 48 (0, [some (.int a0), none], [], xSt xG0 hc hr xs g L c z) (.inl (some (.int r)), xSt xG0 hc hr xs g L c z) := by
  unfold f_i_numberOfTrailingZeros at H
  refine Ex.many (f' := (9, [some (.int ((a0 ^^^ (-1 : Int32)) &&& (a0 - (1 : Int32)))), none], [.int ((a0 ^^^ (-1 : Int32)) &&& (a0 - (1 : Int32)))], xSt xG0 hc hr xs g L c z)) ?_ 9 (by rfl)
  refine Ex.ite (ls := [some (.int ((a0 ^^^ (-1 : Int32)) &&& (a0 - (1 : Int32)))), none]) (st := []) (S := xSt xG0 hc hr xs g L c z) (by rfl) (fun q1 => ?_) (fun q1 => ?_)
  · replace H := (if_pos q1).symm.trans H
    refine Ex.many (f' := (23, [some (.int ((a0 ^^^ (-1 : Int32)) &&& (a0 - (1 : Int32)))), some (.int (1 : Int32))], [.int (65536 : Int32), .int ((a0 ^^^ (-1 : Int32)) &&& (a0 - (1 : Int32)))], xSt xG0 hc hr xs g L c z)) ?_ 4 (by rfl)
    refine Ex.ite (ls := [some (.int ((a0 ^^^ (-1 : Int32)) &&& (a0 - (1 : Int32)))), some (.int (1 : Int32))]) (st := []) (S := xSt xG0 hc hr xs g L c z) (by rfl) (fun q2 => ?_) (fun q2 => ?_)
    · replace H := (if_pos q2).symm.trans H
      exact T_i_numberOfTrailingZeros_34 ((a0 ^^^ (-1 : Int32)) &&& (a0 - (1 : Int32))) (1 : Int32) r H
    · replace H := (if_neg q2).symm.trans H
      refine Ex.many (f' := (34, [some (.int (xushr ((a0 ^^^ (-1 : Int32)) &&& (a0 - (1 : Int32))) (16 : Int32))), some (.int ((1 : Int32) + (16 : Int32)))], [], xSt xG0 hc hr xs g L c z)) ?_ 5 (by rfl)
      exact T_i_numberOfTrailingZeros_34 (xushr ((a0 ^^^ (-1 : Int32)) &&& (a0 - (1 : Int32))) (16 : Int32)) ((1 : Int32) + (16 : Int32)) r H
  · replace H := (if_neg q1).symm.trans H
    refine Ex.many (f' := (16, [some (.int ((a0 ^^^ (-1 : Int32)) &&& (a0 - (1 : Int32)))), none], [.int (((a0 ^^^ (-1 : Int32)) &&& (a0 - (1 : Int32))) &&& (32 : Int32))], xSt xG0 hc hr xs g L c z)) ?_ 3 (by rfl)
    subst H
    exact Ex.done (by rfl)
end
