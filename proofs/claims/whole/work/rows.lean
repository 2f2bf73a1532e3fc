section
-- ===== PART A: goes FIRST, ahead of the names: the tables' words, and 'selects' of the private methods out of them =====
/-- a private method of a class that the tables say can be made, by its rows of tables_1 -/
def lw_okq (q : MethodName × Nat) : Prop := (q.1.cls ≠ "java/lang/invoke/MethodHandle" ∧ q.1.cls ≠ "java/lang/invoke/VarHandle") ∧ Cond.instantiable q.1.cls q.2 ∈ tables_1 ∧ Cond.privateMethod q.1 ∈ tables_1 ∧ Cond.instanceMethod q.1 ∈ tables_1
theorem lw_p0 : lw_okq (⟨"ShortMill$Grammar", "clear", "()V"⟩, 6) := ⟨⟨by decide +kernel, by decide +kernel⟩, List.mem_of_getElem? (i := 78) (by decide +kernel), List.mem_of_getElem? (i := 179) (by decide +kernel), List.mem_of_getElem? (i := 180) (by decide +kernel)⟩
theorem lw_p1 : lw_okq (⟨"ShortMill$Grammar", "now", "()I"⟩, 6) := ⟨⟨by decide +kernel, by decide +kernel⟩, List.mem_of_getElem? (i := 78) (by decide +kernel), List.mem_of_getElem? (i := 187) (by decide +kernel), List.mem_of_getElem? (i := 188) (by decide +kernel)⟩
theorem lw_p2 : lw_okq (⟨"ShortMill$Grammar", "readFunction", "()V"⟩, 6) := ⟨⟨by decide +kernel, by decide +kernel⟩, List.mem_of_getElem? (i := 78) (by decide +kernel), List.mem_of_getElem? (i := 195) (by decide +kernel), List.mem_of_getElem? (i := 196) (by decide +kernel)⟩
theorem lw_p3 : lw_okq (⟨"ShortMill$Grammar", "expect", "(I)V"⟩, 6) := ⟨⟨by decide +kernel, by decide +kernel⟩, List.mem_of_getElem? (i := 78) (by decide +kernel), List.mem_of_getElem? (i := 199) (by decide +kernel), List.mem_of_getElem? (i := 200) (by decide +kernel)⟩
theorem lw_p4 : lw_okq (⟨"ShortMill$Grammar", "fail", "(I)V"⟩, 6) := ⟨⟨by decide +kernel, by decide +kernel⟩, List.mem_of_getElem? (i := 78) (by decide +kernel), List.mem_of_getElem? (i := 203) (by decide +kernel), List.mem_of_getElem? (i := 204) (by decide +kernel)⟩
theorem lw_p5 : lw_okq (⟨"ShortMill$Grammar", "next", "()V"⟩, 6) := ⟨⟨by decide +kernel, by decide +kernel⟩, List.mem_of_getElem? (i := 78) (by decide +kernel), List.mem_of_getElem? (i := 211) (by decide +kernel), List.mem_of_getElem? (i := 212) (by decide +kernel)⟩
theorem lw_p6 : lw_okq (⟨"ShortMill$Grammar", "readBlock", "(I)V"⟩, 6) := ⟨⟨by decide +kernel, by decide +kernel⟩, List.mem_of_getElem? (i := 78) (by decide +kernel), List.mem_of_getElem? (i := 219) (by decide +kernel), List.mem_of_getElem? (i := 220) (by decide +kernel)⟩
theorem lw_p7 : lw_okq (⟨"ShortMill$Grammar", "readStatement", "(I)V"⟩, 6) := ⟨⟨by decide +kernel, by decide +kernel⟩, List.mem_of_getElem? (i := 78) (by decide +kernel), List.mem_of_getElem? (i := 223) (by decide +kernel), List.mem_of_getElem? (i := 224) (by decide +kernel)⟩
theorem lw_p8 : lw_okq (⟨"ShortMill$Grammar", "readIf", "(I)V"⟩, 6) := ⟨⟨by decide +kernel, by decide +kernel⟩, List.mem_of_getElem? (i := 78) (by decide +kernel), List.mem_of_getElem? (i := 231) (by decide +kernel), List.mem_of_getElem? (i := 232) (by decide +kernel)⟩
theorem lw_p9 : lw_okq (⟨"ShortMill$Grammar", "readChoice", "()V"⟩, 6) := ⟨⟨by decide +kernel, by decide +kernel⟩, List.mem_of_getElem? (i := 78) (by decide +kernel), List.mem_of_getElem? (i := 235) (by decide +kernel), List.mem_of_getElem? (i := 236) (by decide +kernel)⟩
theorem lw_p10 : lw_okq (⟨"ShortMill$Grammar", "readValue", "(I)V"⟩, 6) := ⟨⟨by decide +kernel, by decide +kernel⟩, List.mem_of_getElem? (i := 78) (by decide +kernel), List.mem_of_getElem? (i := 239) (by decide +kernel), List.mem_of_getElem? (i := 240) (by decide +kernel)⟩
theorem lw_p11 : lw_okq (⟨"ShortMill$Grammar", "readSum", "(I)V"⟩, 6) := ⟨⟨by decide +kernel, by decide +kernel⟩, List.mem_of_getElem? (i := 78) (by decide +kernel), List.mem_of_getElem? (i := 243) (by decide +kernel), List.mem_of_getElem? (i := 244) (by decide +kernel)⟩
theorem lw_p12 : lw_okq (⟨"ShortMill$Grammar", "readProduct", "(I)V"⟩, 6) := ⟨⟨by decide +kernel, by decide +kernel⟩, List.mem_of_getElem? (i := 78) (by decide +kernel), List.mem_of_getElem? (i := 247) (by decide +kernel), List.mem_of_getElem? (i := 248) (by decide +kernel)⟩
theorem lw_p13 : lw_okq (⟨"ShortMill$Grammar", "readPart", "(I)V"⟩, 6) := ⟨⟨by decide +kernel, by decide +kernel⟩, List.mem_of_getElem? (i := 78) (by decide +kernel), List.mem_of_getElem? (i := 251) (by decide +kernel), List.mem_of_getElem? (i := 252) (by decide +kernel)⟩
theorem lw_p14 : lw_okq (⟨"ShortMill$Grammar", "readPiece", "(I)V"⟩, 6) := ⟨⟨by decide +kernel, by decide +kernel⟩, List.mem_of_getElem? (i := 78) (by decide +kernel), List.mem_of_getElem? (i := 255) (by decide +kernel), List.mem_of_getElem? (i := 256) (by decide +kernel)⟩
theorem lw_p15 : lw_okq (⟨"ShortMill$Grammar", "readCall", "(I)V"⟩, 6) := ⟨⟨by decide +kernel, by decide +kernel⟩, List.mem_of_getElem? (i := 78) (by decide +kernel), List.mem_of_getElem? (i := 262) (by decide +kernel), List.mem_of_getElem? (i := 263) (by decide +kernel)⟩
def lw_privs_1 : List (MethodName × Nat) := [(⟨"ShortMill$Grammar", "clear", "()V"⟩, 6), (⟨"ShortMill$Grammar", "now", "()I"⟩, 6), (⟨"ShortMill$Grammar", "readFunction", "()V"⟩, 6), (⟨"ShortMill$Grammar", "expect", "(I)V"⟩, 6), (⟨"ShortMill$Grammar", "fail", "(I)V"⟩, 6), (⟨"ShortMill$Grammar", "next", "()V"⟩, 6), (⟨"ShortMill$Grammar", "readBlock", "(I)V"⟩, 6), (⟨"ShortMill$Grammar", "readStatement", "(I)V"⟩, 6), (⟨"ShortMill$Grammar", "readIf", "(I)V"⟩, 6), (⟨"ShortMill$Grammar", "readChoice", "()V"⟩, 6), (⟨"ShortMill$Grammar", "readValue", "(I)V"⟩, 6), (⟨"ShortMill$Grammar", "readSum", "(I)V"⟩, 6), (⟨"ShortMill$Grammar", "readProduct", "(I)V"⟩, 6), (⟨"ShortMill$Grammar", "readPart", "(I)V"⟩, 6), (⟨"ShortMill$Grammar", "readPiece", "(I)V"⟩, 6), (⟨"ShortMill$Grammar", "readCall", "(I)V"⟩, 6)]
theorem lw_r1 : ∀ q ∈ lw_privs_1, lw_okq q := List.forall_mem_cons.mpr ⟨lw_p0, List.forall_mem_cons.mpr ⟨lw_p1, List.forall_mem_cons.mpr ⟨lw_p2, List.forall_mem_cons.mpr ⟨lw_p3, List.forall_mem_cons.mpr ⟨lw_p4, List.forall_mem_cons.mpr ⟨lw_p5, List.forall_mem_cons.mpr ⟨lw_p6, List.forall_mem_cons.mpr ⟨lw_p7, List.forall_mem_cons.mpr ⟨lw_p8, List.forall_mem_cons.mpr ⟨lw_p9, List.forall_mem_cons.mpr ⟨lw_p10, List.forall_mem_cons.mpr ⟨lw_p11, List.forall_mem_cons.mpr ⟨lw_p12, List.forall_mem_cons.mpr ⟨lw_p13, List.forall_mem_cons.mpr ⟨lw_p14, List.forall_mem_cons.mpr ⟨lw_p15, fun _ h => absurd h List.not_mem_nil⟩⟩⟩⟩⟩⟩⟩⟩⟩⟩⟩⟩⟩⟩⟩⟩
theorem lw_p16 : lw_okq (⟨"ShortMill$Grammar", "readIndex", "(I)V"⟩, 6) := ⟨⟨by decide +kernel, by decide +kernel⟩, List.mem_of_getElem? (i := 78) (by decide +kernel), List.mem_of_getElem? (i := 266) (by decide +kernel), List.mem_of_getElem? (i := 267) (by decide +kernel)⟩
theorem lw_p17 : lw_okq (⟨"ShortMill$Grammar", "readSingle", "(I)V"⟩, 6) := ⟨⟨by decide +kernel, by decide +kernel⟩, List.mem_of_getElem? (i := 78) (by decide +kernel), List.mem_of_getElem? (i := 270) (by decide +kernel), List.mem_of_getElem? (i := 271) (by decide +kernel)⟩
theorem lw_p18 : lw_okq (⟨"ShortMill$Grammar", "readWhile", "(II)V"⟩, 6) := ⟨⟨by decide +kernel, by decide +kernel⟩, List.mem_of_getElem? (i := 78) (by decide +kernel), List.mem_of_getElem? (i := 278) (by decide +kernel), List.mem_of_getElem? (i := 279) (by decide +kernel)⟩
theorem lw_p19 : lw_okq (⟨"ShortMill$Grammar", "readWord", "(I)V"⟩, 6) := ⟨⟨by decide +kernel, by decide +kernel⟩, List.mem_of_getElem? (i := 78) (by decide +kernel), List.mem_of_getElem? (i := 282) (by decide +kernel), List.mem_of_getElem? (i := 283) (by decide +kernel)⟩
theorem lw_p20 : lw_okq (⟨"ShortMill$Grammar", "readSetting", "(I)V"⟩, 6) := ⟨⟨by decide +kernel, by decide +kernel⟩, List.mem_of_getElem? (i := 78) (by decide +kernel), List.mem_of_getElem? (i := 286) (by decide +kernel), List.mem_of_getElem? (i := 287) (by decide +kernel)⟩
theorem lw_p21 : lw_okq (⟨"ShortMill$Grammar", "checkCalls", "()V"⟩, 6) := ⟨⟨by decide +kernel, by decide +kernel⟩, List.mem_of_getElem? (i := 78) (by decide +kernel), List.mem_of_getElem? (i := 290) (by decide +kernel), List.mem_of_getElem? (i := 291) (by decide +kernel)⟩
theorem lw_p22 : lw_okq (⟨"ShortMill$Grammar", "checkCall", "(II)V"⟩, 6) := ⟨⟨by decide +kernel, by decide +kernel⟩, List.mem_of_getElem? (i := 78) (by decide +kernel), List.mem_of_getElem? (i := 294) (by decide +kernel), List.mem_of_getElem? (i := 295) (by decide +kernel)⟩
theorem lw_p23 : lw_okq (⟨"java/lang/Throwable", "fillInStackTrace", "(I)Ljava/lang/Throwable;"⟩, 6) := ⟨⟨by decide +kernel, by decide +kernel⟩, List.mem_of_getElem? (i := 390) (by decide +kernel), List.mem_of_getElem? (i := 388) (by decide +kernel), List.mem_of_getElem? (i := 389) (by decide +kernel)⟩
theorem lw_p24 : lw_okq (⟨"ShortMill$Machine", "enter", "(I)V"⟩, 14) := ⟨⟨by decide +kernel, by decide +kernel⟩, List.mem_of_getElem? (i := 103) (by decide +kernel), List.mem_of_getElem? (i := 457) (by decide +kernel), List.mem_of_getElem? (i := 458) (by decide +kernel)⟩
theorem lw_p25 : lw_okq (⟨"ShortMill$Machine", "setLocal", "(II)V"⟩, 14) := ⟨⟨by decide +kernel, by decide +kernel⟩, List.mem_of_getElem? (i := 103) (by decide +kernel), List.mem_of_getElem? (i := 461) (by decide +kernel), List.mem_of_getElem? (i := 462) (by decide +kernel)⟩
theorem lw_p26 : lw_okq (⟨"ShortMill$Machine", "pop", "()I"⟩, 14) := ⟨⟨by decide +kernel, by decide +kernel⟩, List.mem_of_getElem? (i := 103) (by decide +kernel), List.mem_of_getElem? (i := 466) (by decide +kernel), List.mem_of_getElem? (i := 467) (by decide +kernel)⟩
theorem lw_p27 : lw_okq (⟨"ShortMill$Machine", "act", "(II)V"⟩, 14) := ⟨⟨by decide +kernel, by decide +kernel⟩, List.mem_of_getElem? (i := 103) (by decide +kernel), List.mem_of_getElem? (i := 514) (by decide +kernel), List.mem_of_getElem? (i := 515) (by decide +kernel)⟩
theorem lw_p28 : lw_okq (⟨"ShortMill$Machine", "leave", "()V"⟩, 14) := ⟨⟨by decide +kernel, by decide +kernel⟩, List.mem_of_getElem? (i := 103) (by decide +kernel), List.mem_of_getElem? (i := 518) (by decide +kernel), List.mem_of_getElem? (i := 519) (by decide +kernel)⟩
theorem lw_p29 : lw_okq (⟨"ShortMill$Machine", "push", "(I)V"⟩, 14) := ⟨⟨by decide +kernel, by decide +kernel⟩, List.mem_of_getElem? (i := 103) (by decide +kernel), List.mem_of_getElem? (i := 522) (by decide +kernel), List.mem_of_getElem? (i := 523) (by decide +kernel)⟩
theorem lw_p30 : lw_okq (⟨"ShortMill$Machine", "call", "(I)V"⟩, 14) := ⟨⟨by decide +kernel, by decide +kernel⟩, List.mem_of_getElem? (i := 103) (by decide +kernel), List.mem_of_getElem? (i := 526) (by decide +kernel), List.mem_of_getElem? (i := 527) (by decide +kernel)⟩
theorem lw_p31 : lw_okq (⟨"ShortMill$Machine", "show", "(I)V"⟩, 14) := ⟨⟨by decide +kernel, by decide +kernel⟩, List.mem_of_getElem? (i := 103) (by decide +kernel), List.mem_of_getElem? (i := 530) (by decide +kernel), List.mem_of_getElem? (i := 531) (by decide +kernel)⟩
def lw_privs_2 : List (MethodName × Nat) := [(⟨"ShortMill$Grammar", "readIndex", "(I)V"⟩, 6), (⟨"ShortMill$Grammar", "readSingle", "(I)V"⟩, 6), (⟨"ShortMill$Grammar", "readWhile", "(II)V"⟩, 6), (⟨"ShortMill$Grammar", "readWord", "(I)V"⟩, 6), (⟨"ShortMill$Grammar", "readSetting", "(I)V"⟩, 6), (⟨"ShortMill$Grammar", "checkCalls", "()V"⟩, 6), (⟨"ShortMill$Grammar", "checkCall", "(II)V"⟩, 6), (⟨"java/lang/Throwable", "fillInStackTrace", "(I)Ljava/lang/Throwable;"⟩, 6), (⟨"ShortMill$Machine", "enter", "(I)V"⟩, 14), (⟨"ShortMill$Machine", "setLocal", "(II)V"⟩, 14), (⟨"ShortMill$Machine", "pop", "()I"⟩, 14), (⟨"ShortMill$Machine", "act", "(II)V"⟩, 14), (⟨"ShortMill$Machine", "leave", "()V"⟩, 14), (⟨"ShortMill$Machine", "push", "(I)V"⟩, 14), (⟨"ShortMill$Machine", "call", "(I)V"⟩, 14), (⟨"ShortMill$Machine", "show", "(I)V"⟩, 14)]
theorem lw_r2 : ∀ q ∈ lw_privs_2, lw_okq q := List.forall_mem_cons.mpr ⟨lw_p16, List.forall_mem_cons.mpr ⟨lw_p17, List.forall_mem_cons.mpr ⟨lw_p18, List.forall_mem_cons.mpr ⟨lw_p19, List.forall_mem_cons.mpr ⟨lw_p20, List.forall_mem_cons.mpr ⟨lw_p21, List.forall_mem_cons.mpr ⟨lw_p22, List.forall_mem_cons.mpr ⟨lw_p23, List.forall_mem_cons.mpr ⟨lw_p24, List.forall_mem_cons.mpr ⟨lw_p25, List.forall_mem_cons.mpr ⟨lw_p26, List.forall_mem_cons.mpr ⟨lw_p27, List.forall_mem_cons.mpr ⟨lw_p28, List.forall_mem_cons.mpr ⟨lw_p29, List.forall_mem_cons.mpr ⟨lw_p30, List.forall_mem_cons.mpr ⟨lw_p31, fun _ h => absurd h List.not_mem_nil⟩⟩⟩⟩⟩⟩⟩⟩⟩⟩⟩⟩⟩⟩⟩⟩
theorem lw_p32 : lw_okq (⟨"ShortMill$Machine", "read", "()V"⟩, 14) := ⟨⟨by decide +kernel, by decide +kernel⟩, List.mem_of_getElem? (i := 103) (by decide +kernel), List.mem_of_getElem? (i := 534) (by decide +kernel), List.mem_of_getElem? (i := 535) (by decide +kernel)⟩
theorem lw_p33 : lw_okq (⟨"ShortMill$Machine", "actOnVariable", "(II)V"⟩, 14) := ⟨⟨by decide +kernel, by decide +kernel⟩, List.mem_of_getElem? (i := 103) (by decide +kernel), List.mem_of_getElem? (i := 542) (by decide +kernel), List.mem_of_getElem? (i := 543) (by decide +kernel)⟩
theorem lw_p34 : lw_okq (⟨"ShortMill$Machine", "setGlobal", "(II)V"⟩, 14) := ⟨⟨by decide +kernel, by decide +kernel⟩, List.mem_of_getElem? (i := 103) (by decide +kernel), List.mem_of_getElem? (i := 550) (by decide +kernel), List.mem_of_getElem? (i := 551) (by decide +kernel)⟩
theorem lw_p35 : lw_okq (⟨"ShortMill$Machine", "localAt", "(I)I"⟩, 14) := ⟨⟨by decide +kernel, by decide +kernel⟩, List.mem_of_getElem? (i := 103) (by decide +kernel), List.mem_of_getElem? (i := 554) (by decide +kernel), List.mem_of_getElem? (i := 555) (by decide +kernel)⟩
theorem lw_p36 : lw_okq (⟨"ShortMill$Machine", "getPlace", "(I)V"⟩, 14) := ⟨⟨by decide +kernel, by decide +kernel⟩, List.mem_of_getElem? (i := 103) (by decide +kernel), List.mem_of_getElem? (i := 558) (by decide +kernel), List.mem_of_getElem? (i := 559) (by decide +kernel)⟩
theorem lw_p37 : lw_okq (⟨"ShortMill$Machine", "setPlace", "(I)V"⟩, 14) := ⟨⟨by decide +kernel, by decide +kernel⟩, List.mem_of_getElem? (i := 103) (by decide +kernel), List.mem_of_getElem? (i := 566) (by decide +kernel), List.mem_of_getElem? (i := 567) (by decide +kernel)⟩
theorem lw_p38 : lw_okq (⟨"ShortMill$Machine", "combine", "(I)V"⟩, 14) := ⟨⟨by decide +kernel, by decide +kernel⟩, List.mem_of_getElem? (i := 103) (by decide +kernel), List.mem_of_getElem? (i := 570) (by decide +kernel), List.mem_of_getElem? (i := 571) (by decide +kernel)⟩
theorem lw_p39 : lw_okq (⟨"ShortMill$Machine", "divide", "(III)V"⟩, 14) := ⟨⟨by decide +kernel, by decide +kernel⟩, List.mem_of_getElem? (i := 103) (by decide +kernel), List.mem_of_getElem? (i := 574) (by decide +kernel), List.mem_of_getElem? (i := 575) (by decide +kernel)⟩
theorem lw_p40 : lw_okq (⟨"ShortMillModel", "readText", "()V"⟩, 52) := ⟨⟨by decide +kernel, by decide +kernel⟩, List.mem_of_getElem? (i := 628) (by decide +kernel), List.mem_of_getElem? (i := 803) (by decide +kernel), List.mem_of_getElem? (i := 804) (by decide +kernel)⟩
theorem lw_p41 : lw_okq (⟨"ShortMillModel", "function", "()V"⟩, 52) := ⟨⟨by decide +kernel, by decide +kernel⟩, List.mem_of_getElem? (i := 628) (by decide +kernel), List.mem_of_getElem? (i := 807) (by decide +kernel), List.mem_of_getElem? (i := 808) (by decide +kernel)⟩
theorem lw_p42 : lw_okq (⟨"ShortMillModel", "token", "()I"⟩, 52) := ⟨⟨by decide +kernel, by decide +kernel⟩, List.mem_of_getElem? (i := 628) (by decide +kernel), List.mem_of_getElem? (i := 811) (by decide +kernel), List.mem_of_getElem? (i := 812) (by decide +kernel)⟩
theorem lw_p43 : lw_okq (⟨"ShortMillModel", "must", "(I)Z"⟩, 52) := ⟨⟨by decide +kernel, by decide +kernel⟩, List.mem_of_getElem? (i := 628) (by decide +kernel), List.mem_of_getElem? (i := 815) (by decide +kernel), List.mem_of_getElem? (i := 816) (by decide +kernel)⟩
theorem lw_p44 : lw_okq (⟨"ShortMillModel", "wrong", "(II)V"⟩, 52) := ⟨⟨by decide +kernel, by decide +kernel⟩, List.mem_of_getElem? (i := 628) (by decide +kernel), List.mem_of_getElem? (i := 819) (by decide +kernel), List.mem_of_getElem? (i := 820) (by decide +kernel)⟩
theorem lw_p45 : lw_okq (⟨"ShortMillModel", "begins", "(III)V"⟩, 52) := ⟨⟨by decide +kernel, by decide +kernel⟩, List.mem_of_getElem? (i := 628) (by decide +kernel), List.mem_of_getElem? (i := 826) (by decide +kernel), List.mem_of_getElem? (i := 827) (by decide +kernel)⟩
theorem lw_p46 : lw_okq (⟨"ShortMillModel", "statement", "()V"⟩, 52) := ⟨⟨by decide +kernel, by decide +kernel⟩, List.mem_of_getElem? (i := 628) (by decide +kernel), List.mem_of_getElem? (i := 830) (by decide +kernel), List.mem_of_getElem? (i := 831) (by decide +kernel)⟩
theorem lw_p47 : lw_okq (⟨"ShortMillModel", "blockEnds", "()V"⟩, 52) := ⟨⟨by decide +kernel, by decide +kernel⟩, List.mem_of_getElem? (i := 628) (by decide +kernel), List.mem_of_getElem? (i := 834) (by decide +kernel), List.mem_of_getElem? (i := 835) (by decide +kernel)⟩
def lw_privs_3 : List (MethodName × Nat) := [(⟨"ShortMill$Machine", "read", "()V"⟩, 14), (⟨"ShortMill$Machine", "actOnVariable", "(II)V"⟩, 14), (⟨"ShortMill$Machine", "setGlobal", "(II)V"⟩, 14), (⟨"ShortMill$Machine", "localAt", "(I)I"⟩, 14), (⟨"ShortMill$Machine", "getPlace", "(I)V"⟩, 14), (⟨"ShortMill$Machine", "setPlace", "(I)V"⟩, 14), (⟨"ShortMill$Machine", "combine", "(I)V"⟩, 14), (⟨"ShortMill$Machine", "divide", "(III)V"⟩, 14), (⟨"ShortMillModel", "readText", "()V"⟩, 52), (⟨"ShortMillModel", "function", "()V"⟩, 52), (⟨"ShortMillModel", "token", "()I"⟩, 52), (⟨"ShortMillModel", "must", "(I)Z"⟩, 52), (⟨"ShortMillModel", "wrong", "(II)V"⟩, 52), (⟨"ShortMillModel", "begins", "(III)V"⟩, 52), (⟨"ShortMillModel", "statement", "()V"⟩, 52), (⟨"ShortMillModel", "blockEnds", "()V"⟩, 52)]
theorem lw_r3 : ∀ q ∈ lw_privs_3, lw_okq q := List.forall_mem_cons.mpr ⟨lw_p32, List.forall_mem_cons.mpr ⟨lw_p33, List.forall_mem_cons.mpr ⟨lw_p34, List.forall_mem_cons.mpr ⟨lw_p35, List.forall_mem_cons.mpr ⟨lw_p36, List.forall_mem_cons.mpr ⟨lw_p37, List.forall_mem_cons.mpr ⟨lw_p38, List.forall_mem_cons.mpr ⟨lw_p39, List.forall_mem_cons.mpr ⟨lw_p40, List.forall_mem_cons.mpr ⟨lw_p41, List.forall_mem_cons.mpr ⟨lw_p42, List.forall_mem_cons.mpr ⟨lw_p43, List.forall_mem_cons.mpr ⟨lw_p44, List.forall_mem_cons.mpr ⟨lw_p45, List.forall_mem_cons.mpr ⟨lw_p46, List.forall_mem_cons.mpr ⟨lw_p47, fun _ h => absurd h List.not_mem_nil⟩⟩⟩⟩⟩⟩⟩⟩⟩⟩⟩⟩⟩⟩⟩⟩
theorem lw_p48 : lw_okq (⟨"ShortMillModel", "emit", "(II)I"⟩, 52) := ⟨⟨by decide +kernel, by decide +kernel⟩, List.mem_of_getElem? (i := 628) (by decide +kernel), List.mem_of_getElem? (i := 838) (by decide +kernel), List.mem_of_getElem? (i := 839) (by decide +kernel)⟩
theorem lw_p49 : lw_okq (⟨"ShortMillModel", "worth", "(I)V"⟩, 52) := ⟨⟨by decide +kernel, by decide +kernel⟩, List.mem_of_getElem? (i := 628) (by decide +kernel), List.mem_of_getElem? (i := 842) (by decide +kernel), List.mem_of_getElem? (i := 843) (by decide +kernel)⟩
theorem lw_p50 : lw_okq (⟨"ShortMillModel", "enters", "(II)V"⟩, 52) := ⟨⟨by decide +kernel, by decide +kernel⟩, List.mem_of_getElem? (i := 628) (by decide +kernel), List.mem_of_getElem? (i := 846) (by decide +kernel), List.mem_of_getElem? (i := 847) (by decide +kernel)⟩
theorem lw_p51 : lw_okq (⟨"ShortMillModel", "fresh", "()V"⟩, 52) := ⟨⟨by decide +kernel, by decide +kernel⟩, List.mem_of_getElem? (i := 628) (by decide +kernel), List.mem_of_getElem? (i := 850) (by decide +kernel), List.mem_of_getElem? (i := 851) (by decide +kernel)⟩
theorem lw_p52 : lw_okq (⟨"ShortMillModel", "call", "()I"⟩, 52) := ⟨⟨by decide +kernel, by decide +kernel⟩, List.mem_of_getElem? (i := 628) (by decide +kernel), List.mem_of_getElem? (i := 854) (by decide +kernel), List.mem_of_getElem? (i := 855) (by decide +kernel)⟩
theorem lw_p53 : lw_okq (⟨"ShortMillModel", "callEnds", "(I)V"⟩, 52) := ⟨⟨by decide +kernel, by decide +kernel⟩, List.mem_of_getElem? (i := 628) (by decide +kernel), List.mem_of_getElem? (i := 858) (by decide +kernel), List.mem_of_getElem? (i := 859) (by decide +kernel)⟩
theorem lw_p54 : lw_okq (⟨"ShortMillModel", "piece", "()V"⟩, 52) := ⟨⟨by decide +kernel, by decide +kernel⟩, List.mem_of_getElem? (i := 628) (by decide +kernel), List.mem_of_getElem? (i := 862) (by decide +kernel), List.mem_of_getElem? (i := 863) (by decide +kernel)⟩
theorem lw_p55 : lw_okq (⟨"ShortMillModel", "arguments", "(I)V"⟩, 52) := ⟨⟨by decide +kernel, by decide +kernel⟩, List.mem_of_getElem? (i := 628) (by decide +kernel), List.mem_of_getElem? (i := 866) (by decide +kernel), List.mem_of_getElem? (i := 867) (by decide +kernel)⟩
theorem lw_p56 : lw_okq (⟨"ShortMillModel", "behind", "()V"⟩, 52) := ⟨⟨by decide +kernel, by decide +kernel⟩, List.mem_of_getElem? (i := 628) (by decide +kernel), List.mem_of_getElem? (i := 870) (by decide +kernel), List.mem_of_getElem? (i := 871) (by decide +kernel)⟩
theorem lw_p57 : lw_okq (⟨"ShortMillModel", "reduce", "(I)V"⟩, 52) := ⟨⟨by decide +kernel, by decide +kernel⟩, List.mem_of_getElem? (i := 628) (by decide +kernel), List.mem_of_getElem? (i := 877) (by decide +kernel), List.mem_of_getElem? (i := 878) (by decide +kernel)⟩
theorem lw_p58 : lw_okq (⟨"ShortMillModel", "valueEnds", "(II)V"⟩, 52) := ⟨⟨by decide +kernel, by decide +kernel⟩, List.mem_of_getElem? (i := 628) (by decide +kernel), List.mem_of_getElem? (i := 881) (by decide +kernel), List.mem_of_getElem? (i := 882) (by decide +kernel)⟩
theorem lw_p59 : lw_okq (⟨"ShortMillModel", "argumentEnds", "(II)V"⟩, 52) := ⟨⟨by decide +kernel, by decide +kernel⟩, List.mem_of_getElem? (i := 628) (by decide +kernel), List.mem_of_getElem? (i := 885) (by decide +kernel), List.mem_of_getElem? (i := 886) (by decide +kernel)⟩
theorem lw_p60 : lw_okq (⟨"ShortMillModel", "nothing", "()V"⟩, 52) := ⟨⟨by decide +kernel, by decide +kernel⟩, List.mem_of_getElem? (i := 628) (by decide +kernel), List.mem_of_getElem? (i := 889) (by decide +kernel), List.mem_of_getElem? (i := 890) (by decide +kernel)⟩
theorem lw_p61 : lw_okq (⟨"ShortMillModel", "enter", "(II)V"⟩, 52) := ⟨⟨by decide +kernel, by decide +kernel⟩, List.mem_of_getElem? (i := 628) (by decide +kernel), List.mem_of_getElem? (i := 897) (by decide +kernel), List.mem_of_getElem? (i := 898) (by decide +kernel)⟩
theorem lw_p62 : lw_okq (⟨"ShortMillModel", "does", "(II)V"⟩, 52) := ⟨⟨by decide +kernel, by decide +kernel⟩, List.mem_of_getElem? (i := 628) (by decide +kernel), List.mem_of_getElem? (i := 909) (by decide +kernel), List.mem_of_getElem? (i := 910) (by decide +kernel)⟩
theorem lw_p63 : lw_okq (⟨"ShortMillModel", "push", "(I)V"⟩, 52) := ⟨⟨by decide +kernel, by decide +kernel⟩, List.mem_of_getElem? (i := 628) (by decide +kernel), List.mem_of_getElem? (i := 913) (by decide +kernel), List.mem_of_getElem? (i := 914) (by decide +kernel)⟩
def lw_privs_4 : List (MethodName × Nat) := [(⟨"ShortMillModel", "emit", "(II)I"⟩, 52), (⟨"ShortMillModel", "worth", "(I)V"⟩, 52), (⟨"ShortMillModel", "enters", "(II)V"⟩, 52), (⟨"ShortMillModel", "fresh", "()V"⟩, 52), (⟨"ShortMillModel", "call", "()I"⟩, 52), (⟨"ShortMillModel", "callEnds", "(I)V"⟩, 52), (⟨"ShortMillModel", "piece", "()V"⟩, 52), (⟨"ShortMillModel", "arguments", "(I)V"⟩, 52), (⟨"ShortMillModel", "behind", "()V"⟩, 52), (⟨"ShortMillModel", "reduce", "(I)V"⟩, 52), (⟨"ShortMillModel", "valueEnds", "(II)V"⟩, 52), (⟨"ShortMillModel", "argumentEnds", "(II)V"⟩, 52), (⟨"ShortMillModel", "nothing", "()V"⟩, 52), (⟨"ShortMillModel", "enter", "(II)V"⟩, 52), (⟨"ShortMillModel", "does", "(II)V"⟩, 52), (⟨"ShortMillModel", "push", "(I)V"⟩, 52)]
theorem lw_r4 : ∀ q ∈ lw_privs_4, lw_okq q := List.forall_mem_cons.mpr ⟨lw_p48, List.forall_mem_cons.mpr ⟨lw_p49, List.forall_mem_cons.mpr ⟨lw_p50, List.forall_mem_cons.mpr ⟨lw_p51, List.forall_mem_cons.mpr ⟨lw_p52, List.forall_mem_cons.mpr ⟨lw_p53, List.forall_mem_cons.mpr ⟨lw_p54, List.forall_mem_cons.mpr ⟨lw_p55, List.forall_mem_cons.mpr ⟨lw_p56, List.forall_mem_cons.mpr ⟨lw_p57, List.forall_mem_cons.mpr ⟨lw_p58, List.forall_mem_cons.mpr ⟨lw_p59, List.forall_mem_cons.mpr ⟨lw_p60, List.forall_mem_cons.mpr ⟨lw_p61, List.forall_mem_cons.mpr ⟨lw_p62, List.forall_mem_cons.mpr ⟨lw_p63, fun _ h => absurd h List.not_mem_nil⟩⟩⟩⟩⟩⟩⟩⟩⟩⟩⟩⟩⟩⟩⟩⟩
theorem lw_p64 : lw_okq (⟨"ShortMillModel", "reads", "()V"⟩, 52) := ⟨⟨by decide +kernel, by decide +kernel⟩, List.mem_of_getElem? (i := 628) (by decide +kernel), List.mem_of_getElem? (i := 920) (by decide +kernel), List.mem_of_getElem? (i := 921) (by decide +kernel)⟩
theorem lw_p65 : lw_okq (⟨"ShortMillModel", "place", "(IZ)V"⟩, 52) := ⟨⟨by decide +kernel, by decide +kernel⟩, List.mem_of_getElem? (i := 628) (by decide +kernel), List.mem_of_getElem? (i := 924) (by decide +kernel), List.mem_of_getElem? (i := 925) (by decide +kernel)⟩
theorem lw_p66 : lw_okq (⟨"ShortMillModel", "pop", "()I"⟩, 52) := ⟨⟨by decide +kernel, by decide +kernel⟩, List.mem_of_getElem? (i := 628) (by decide +kernel), List.mem_of_getElem? (i := 928) (by decide +kernel), List.mem_of_getElem? (i := 929) (by decide +kernel)⟩
theorem lw_p67 : lw_okq (⟨"ShortMillModel", "calls", "(I)V"⟩, 52) := ⟨⟨by decide +kernel, by decide +kernel⟩, List.mem_of_getElem? (i := 628) (by decide +kernel), List.mem_of_getElem? (i := 932) (by decide +kernel), List.mem_of_getElem? (i := 933) (by decide +kernel)⟩
theorem lw_p68 : lw_okq (⟨"ShortMillModel", "returns", "()V"⟩, 52) := ⟨⟨by decide +kernel, by decide +kernel⟩, List.mem_of_getElem? (i := 628) (by decide +kernel), List.mem_of_getElem? (i := 936) (by decide +kernel), List.mem_of_getElem? (i := 937) (by decide +kernel)⟩
theorem lw_p69 : lw_okq (⟨"ShortMillModel", "prints", "()V"⟩, 52) := ⟨⟨by decide +kernel, by decide +kernel⟩, List.mem_of_getElem? (i := 628) (by decide +kernel), List.mem_of_getElem? (i := 940) (by decide +kernel), List.mem_of_getElem? (i := 941) (by decide +kernel)⟩
theorem lw_p70 : lw_okq (⟨"ShortMillModel", "operates", "(I)V"⟩, 52) := ⟨⟨by decide +kernel, by decide +kernel⟩, List.mem_of_getElem? (i := 628) (by decide +kernel), List.mem_of_getElem? (i := 944) (by decide +kernel), List.mem_of_getElem? (i := 945) (by decide +kernel)⟩
def lw_privs_5 : List (MethodName × Nat) := [(⟨"ShortMillModel", "reads", "()V"⟩, 52), (⟨"ShortMillModel", "place", "(IZ)V"⟩, 52), (⟨"ShortMillModel", "pop", "()I"⟩, 52), (⟨"ShortMillModel", "calls", "(I)V"⟩, 52), (⟨"ShortMillModel", "returns", "()V"⟩, 52), (⟨"ShortMillModel", "prints", "()V"⟩, 52), (⟨"ShortMillModel", "operates", "(I)V"⟩, 52)]
theorem lw_r5 : ∀ q ∈ lw_privs_5, lw_okq q := List.forall_mem_cons.mpr ⟨lw_p64, List.forall_mem_cons.mpr ⟨lw_p65, List.forall_mem_cons.mpr ⟨lw_p66, List.forall_mem_cons.mpr ⟨lw_p67, List.forall_mem_cons.mpr ⟨lw_p68, List.forall_mem_cons.mpr ⟨lw_p69, List.forall_mem_cons.mpr ⟨lw_p70, fun _ h => absurd h List.not_mem_nil⟩⟩⟩⟩⟩⟩⟩
def lw_privs : List (MethodName × Nat) := lw_privs_1 ++ (lw_privs_2 ++ (lw_privs_3 ++ (lw_privs_4 ++ (lw_privs_5))))
def lw_tbl : List Cond := k2_sels lw_privs ++ tables_1
theorem lw_privs_ok : ∀ q ∈ lw_privs, lw_okq q := by
  show ∀ q ∈ lw_privs_1 ++ (lw_privs_2 ++ (lw_privs_3 ++ (lw_privs_4 ++ (lw_privs_5)))), lw_okq q
  exact List.forall_mem_append.mpr ⟨lw_r1, List.forall_mem_append.mpr ⟨lw_r2, List.forall_mem_append.mpr ⟨lw_r3, List.forall_mem_append.mpr ⟨lw_r4, lw_r5⟩⟩⟩⟩
-- ===== end of PART A; then your names; then what follows =====
end
section
/-! ===== BEGIN words of one list among another's, by their places ===== -/
theorem goodIn_r {big : List Cond} (ws : List Cond) (ps : List Nat) (hp : ws = ps.filterMap (fun i => big[i]?)) (h : ws.all goodWord = true) : GoodIn big ws := by
  intro w hw
  have h1 := List.all_eq_true.mp h w hw
  rw [hp] at hw
  obtain ⟨i, -, hi⟩ := List.mem_filterMap.mp hw
  have hm : w ∈ big := by first | exact List.mem_of_getElem? hi | exact List.getElem?_mem hi
  exact ⟨hm, good_of_word h1⟩
theorem goodIn_app {big a b : List Cond} (ha : GoodIn big a) (hb : GoodIn big b) : GoodIn big (a ++ b) := fun w h => (List.mem_append.mp h).elim (ha w) (hb w)
theorem goodIn_ca {big a b : List Cond} {c : Cond} (ha : GoodIn big (c :: a)) (hb : GoodIn big b) : GoodIn big (c :: (a ++ b)) := fun w h => (List.mem_cons.mp h).elim (fun e => ha w (List.mem_cons.mpr (Or.inl e))) (fun h => (List.mem_append.mp h).elim (fun h => ha w (List.mem_cons.mpr (Or.inr h))) (hb w))
theorem goodIn_sub {big ws : List Cond} (hm : ∀ w ∈ ws, w ∈ big) (h : ws.all goodWord = true) : GoodIn big ws := fun w hw => ⟨hm w hw, good_of_word (List.all_eq_true.mp h w hw)⟩
/-! ===== END ===== -/

/-! ===== BEGIN exceptions that leave a method, and their catching by the caller (launches without stack traces) ===== -/
section VXA
/-! The laws vx_back, vx_callV, vx_callS, vx_callSW, vx_throw0, vx_throwS follow proofs of the library, with one case more: JvmDerived/Free/Laws.lean (Back.of_free), Shelf42/LK1.lean (callV, callS), Shelf/KitTraced.lean (throwNew0V, throwNewS). -/
/-- where a method has thrown q: the class by its name, the cell, what was written, the world -/
def vx_T (XC : String → State → State → Prop) (st : State) (q : Addr) (t : State) (mc ms : Nat) (free : Addr → Prop) : Prop :=
  ∃ (E : String) (ce : Cell) (L : List Loc), XC E st t ∧ t.heap[q]? = some ce ∧ ce.vm = .none ∧ st.vm.findClass E = some ce.cls ∧ st.WarmedH t.vm ∧ st.sameButNew ({ t with vm := st.vm } : State) L mc ms ∧ ∀ z ∈ L, free z.base
def vx_Q (Qc : Array Value → State → Outcome → State → Prop) (XC : String → State → State → Prop) (mc ms : Nat) (free : Addr → Prop) : Array Value → State → Outcome → State → Prop := fun a st o t =>
  (Qc a st o t ∧ ∃ L, FrameEnd st o t L mc ms ∧ ∀ q ∈ L, free q.base) ∨ ∃ q, o = .threw q ∧ vx_T XC st q t mc ms free
/-- a callee that returns or throws -/
def vx_Met (l : Launch) (y : MethodName) (ws : List Cond) (rm : Room) (Pc : Array Value → State → Prop) (Qc : Array Value → State → Outcome → State → Prop) (XC : String → State → State → Prop) (mc ms : Nat) (free : Addr → Prop) : Prop :=
  MetFree l y (headSpec ws rm) Pc (fun _ _ _ _ _ => True) (vx_Q Qc XC mc ms free)
def vx_Post (XC : String → State → State → Prop) (mc ms : Nat) (free : Addr → Prop) : Pt → Array Value → Addr → Pt → Prop := fun A a q B =>
  ∃ (g : JFrame) (mk : MethodId) (t : State) (L : List Loc) (E : String) (ce : Cell), B.U.heap = t.heap ∧ B.U.vm = t.vm ∧ XC E (A.U.calling g mk a) t ∧ t.heap[q]? = some ce ∧ ce.vm = .none ∧ A.U.vm.findClass E = some ce.cls ∧ B.locs = A.locs ++ L ∧ (∀ z ∈ L, free z.base) ∧ B.cells = A.cells + mc ∧ B.slots = A.slots + ms
def vx_Back (l : Launch) (R : Room) (p : Program) (e : Env) (below : List Frame) (s : State) (sargs : Array Value) (y : MethodName) (len W9 : Nat)
    (Pre : Pt → Array Value → Prop) (Post : Pt → Array Value → Option Value → Pt → Prop) (PostX : Pt → Array Value → Addr → Pt → Prop) : Prop :=
  ∀ (m : MethodId) (meth : Method) (c : Code) (A : Pt) (g : JFrame) (ig : Instr) (mk : MethodId) (a : Array Value),
    Stand p l e R s m sargs below meth c A.U A.locs A.cells A.slots → g.method = m → g.locals.size = c.maxLocals → decode c.code g.pc = .ok (ig, len) →
    2 * g.monitorRoom + (g.stack.map fun v => v.category).sum ≤ W9 → A.U.methodNamed? y = some mk → Pre A a →
    (∃ (v : Option Value) (B : Pt), Stand p l e R s m sargs below meth c B.U B.locs B.cells B.slots ∧ Post A a v B ∧
      Steps p.tables e below (doInvoke e (A.U.setTop g) [] mk a).1 (B.U.setTop { g with pc := g.pc + len, stack := v.toList ++ g.stack })) ∨
    (∃ (q : Addr) (B : Pt), Stand p l e R s m sargs below meth c B.U B.locs B.cells B.slots ∧ PostX A a q B ∧
      Steps p.tables e below (doInvoke e (A.U.setTop g) [] mk a).1 ((B.U.setTop g).pushFrame (.throwing q)))
section Payer
variable {l : Launch} {R : Room} {p : Program} {e : Env} {below : List Frame} {s : State} {sargs : Array Value} {y : MethodName} {len W9 : Nat}
theorem vx_back {ws : List Cond} {rm : Room} {Pc : Array Value → State → Prop} {Qc : Array Value → State → Outcome → State → Prop} {XC : String → State → State → Prop} {mc ms : Nat} {free : Addr → Prop} {bytes : ByteArray} {maxL : Nat} {ret : Option FieldType}
    (hM : vx_Met l y ws rm Pc Qc XC mc ms free) (hblind : FrameBlind Pc) (hrc : rm.cells = mc) (hrs : rm.slots = ms)
    (hframes : rm.frames + 1 ≤ R.frames) (hlocals : W9 + (maxL + 11) + rm.locals ≤ R.locals)
    (hws : ∀ w ∈ ws, ∀ a' U, s.WarmedH U.vm → w.before a' U = true) (hcode : Cond.code y bytes maxL ret ∈ ws) (hinit : ∀ a' U, s.WarmedH U.vm → (Cond.initialized y.cls).before a' U = true) :
    vx_Back l R p e below s sargs y len W9 (PreOf R mc ms Pc) (PostOf Qc mc ms free) (vx_Post XC mc ms free) := by
  intro m meth c A g ig mk a X hg hsize hdg hW hn hp
  have h1 : (headSpec ws rm).pre.before a A.U = true := atoms_intro fun w hw => hws w hw _ _ X.warmed
  have h2 : (Cond.code y bytes maxL ret).before a A.U = true := hws _ hcode _ _ X.warmed
  have h3 : (Cond.initialized y.cls).before a A.U = true := hinit _ _ X.warmed
  have h4 : A.cells + (headSpec ws rm).room.cells ≤ R.cells := by rw [show (headSpec ws rm).room.cells = mc from hrc]; exact hp.1
  have h5 : A.slots + (headSpec ws rm).room.slots ≤ R.slots := by rw [show (headSpec ws rm).room.slots = ms from hrs]; exact hp.2.1
  have hPc : Pc a (A.U.calling g mk a) := hblind _ _ _ _ hp.2.2
  obtain ⟨U, Ls, c0, s0⟩ := A
  dsimp only [Pt.U, Pt.locs, Pt.cells, Pt.slots] at h1 h2 h3 h4 h5 X hn hPc ⊢
  obtain ⟨methY, cY, hmY, hcY, -, hlY, -, -, -, -⟩ := Cond.code_spec hn h2
  obtain ⟨kY, hkY, -⟩ := className_of_methodNamed hn
  have hinitY : kY.init = .initialized := Cond.initialized_spec (findClass_of_methodNamed hn) hkY h3
  have h : At U g.method c below := by rw [hg]; exact X.here
  have hlocals9 : W9 + (maxL + 11) + (headSpec ws rm).room.locals ≤ R.locals := hlocals
  have happ : (headSpec ws rm).appliesLoose y e.platform (U.calling g mk a) = true :=
    Spec.appliesLoose_calling (g := g) h hdg hn hkY hinitY
      (X.room_calling (g := g) (R' := (headSpec ws rm).room) hsize hmY hcY hframes (by rw [hlY]; omega) h4 h5) h1
  obtain ⟨mid, hmid⟩ := h.above
  have hfr : (U.setTop g).frames = (.java g :: mid) ++ below := by rw [State.frames_setTop' g h.top, hmid]; rfl
  obtain ⟨o, s₂, hsteps, -, hend, hq⟩ := Steps.callFree hM p X.admits X.cas X.clock (acts := []) hfr happ hPc trivial
  have hq' : vx_Q Qc XC mc ms free a (U.calling g mk a) o s₂ := hq
  rw [State.frames_setTop' g h.top] at hend
  obtain ⟨g₀, hg0⟩ := Option.isSome_iff_exists.mp h.top
  obtain ⟨r, hr⟩ := State.topJava?_eq_some.mp hg0
  have hr' : (({ U with heap := s₂.heap, slotsUsed := s₂.slotsUsed } : State).setVm s₂.vm).frames = .java g₀ :: r := hr
  rcases hq' with ⟨hqc, L, hfe, hL⟩ | ⟨q, rfl, E, ce, L, hx, hce, hcv, hcl, hW₂, hsm, hL⟩
  · obtain ⟨⟨v, rfl⟩, hW₂, e2, q2, q3, q4, q5, q6⟩ := id hfe
    have e3 : s₂ = ({ (U.calling g mk a).setFrames s₂.frames with heap := s₂.heap, slotsUsed := s₂.slotsUsed } : State).setVm s₂.vm := by
      have : s₂ = ({ s₂ with vm := (U.calling g mk a).vm } : State).setVm s₂.vm := rfl
      rw [e2] at this
      exact this
    obtain ⟨c₂, i₂, len₂, hc₂, hd₂, hf₂⟩ := hend
    have hW' : U.WarmedH s₂.vm := hW₂
    have hcc : c₂ = c := by
      have h1 : s₂.code? g.method = U.code? g.method := by
        rw [State.code?_eq, State.code?_eq, hW'.alike.method?]
      exact Option.some.inj (hc₂.symm.trans (h1.trans h.code))
    subst hcc
    have hlen : len₂ = len := by rw [hdg] at hd₂; cases hd₂; rfl
    subst hlen
    have hs₂ : s₂ = (({ U with heap := s₂.heap, slotsUsed := s₂.slotsUsed } : State).setVm s₂.vm).setTop { g with pc := g.pc + len₂, stack := v.toList ++ g.stack } := by
      refine e3.trans ?_
      rw [hf₂, State.calling_eq h.top, State.setFrames_setFrames, State.setTop_of_frames _ hr', hr]
      rfl
    have hsame : U.sameButNew ({ U with heap := s₂.heap, slotsUsed := s₂.slotsUsed } : State) L mc ms := by
      refine ⟨?_, q2, q3, q4, q5, q6⟩
      obtain ⟨t, ht, -⟩ := State.frames_cons hr
      show ({ U with heap := s₂.heap, slotsUsed := s₂.slotsUsed } : State) = { U.setFrames U.frames with heap := s₂.heap, slotsUsed := s₂.slotsUsed }
      rw [State.setFrames_self ht]
    subst hg
    refine Or.inl ⟨v, ⟨(({ U with heap := s₂.heap, slotsUsed := s₂.slotsUsed } : State).setVm s₂.vm), Ls ++ L, c0 + mc, s0 + ms⟩,
      ⟨X.admits, X.cas, X.clock, X.frames, X.room, X.hears, X.method, X.code, (X.here.setHeapUsed s₂.heap s₂.slotsUsed).setVm hW'.alike, X.tail, State.WarmedH.trans X.warmed hW', X.limits, X.bytes, X.same.trans (hsame.setVm s.vm)⟩,
      ⟨g, mk, s₂, L, rfl, rfl, hqc, rfl, hL, rfl, rfl⟩, ?_⟩
    show Steps p.tables e below _ ((({ U with heap := s₂.heap, slotsUsed := s₂.slotsUsed } : State).setVm s₂.vm).setTop { g with pc := g.pc + len₂, stack := v.toList ++ g.stack })
    rw [← hs₂]
    exact hsteps
  · obtain ⟨e2, q2, q3, q4, q5, q6⟩ := id hsm
    have e3 : s₂ = ({ (U.calling g mk a).setFrames s₂.frames with heap := s₂.heap, slotsUsed := s₂.slotsUsed } : State).setVm s₂.vm := by
      have : s₂ = ({ s₂ with vm := (U.calling g mk a).vm } : State).setVm s₂.vm := rfl
      rw [e2] at this
      exact this
    have hf₂ : s₂.frames = .throwing q :: .java g :: U.frames.tail := hend
    have hW' : U.WarmedH s₂.vm := hW₂
    have hs₂ : s₂ = ((({ U with heap := s₂.heap, slotsUsed := s₂.slotsUsed } : State).setVm s₂.vm).setTop g).pushFrame (.throwing q) := by
      refine e3.trans ?_
      rw [hf₂, State.calling_eq h.top, State.setFrames_setFrames, State.pushFrame, State.frames_setTop _ hr', State.setTop_of_frames _ hr', State.setFrames_setFrames, hr]
      rfl
    have hsame : U.sameButNew ({ U with heap := s₂.heap, slotsUsed := s₂.slotsUsed } : State) L mc ms := by
      refine ⟨?_, q2, q3, q4, q5, q6⟩
      obtain ⟨t, ht, -⟩ := State.frames_cons hr
      show ({ U with heap := s₂.heap, slotsUsed := s₂.slotsUsed } : State) = { U.setFrames U.frames with heap := s₂.heap, slotsUsed := s₂.slotsUsed }
      rw [State.setFrames_self ht]
    subst hg
    refine Or.inr ⟨q, ⟨(({ U with heap := s₂.heap, slotsUsed := s₂.slotsUsed } : State).setVm s₂.vm), Ls ++ L, c0 + mc, s0 + ms⟩,
      ⟨X.admits, X.cas, X.clock, X.frames, X.room, X.hears, X.method, X.code, (X.here.setHeapUsed s₂.heap s₂.slotsUsed).setVm hW'.alike, X.tail, State.WarmedH.trans X.warmed hW', X.limits, X.bytes, X.same.trans (hsame.setVm s.vm)⟩,
      ⟨g, mk, s₂, L, E, ce, rfl, rfl, hx, hce, hcv, hcl, rfl, hL, rfl, rfl⟩, ?_⟩
    show Steps p.tables e below _ (((({ U with heap := s₂.heap, slotsUsed := s₂.slotsUsed } : State).setVm s₂.vm).setTop g).pushFrame (.throwing q))
    rw [← hs₂]
    exact hsteps
end Payer
section Calls
variable {p : Program} {l : Launch} {e : Env} {R : Room} {s : State} {m : MethodId} {args : Array Value} {below : List Frame} {meth : Method} {c : Code} {T : State} {locs : List Loc} {cells slots : Nat}
theorem vx_callV (X : Stand p l e R s m args below meth c T locs cells slots) (hexec : p.tables.exec = Jvm.exec) {own C : String} {index : Nat} {y : MethodName} {bytes : ByteArray} {maxL : Nat} {ret : Option FieldType}
    (hown : s.vm.findClass own = some m.cls) (hlink : (Cond.methodLink own index y).before args s = true) (hinst : (Cond.instanceMethod y).before args s = true) (hsel : (Cond.selects C y y).before args s = true)
    (hcode : (Cond.code y bytes maxL ret).before args s = true) (hy : y.cls ≠ "java/lang/invoke/MethodHandle" ∧ y.cls ≠ "java/lang/invoke/VarHandle")
    {W9 : Nat} {Pre : Pt → Array Value → Prop} {Post : Pt → Array Value → Option Value → Pt → Prop} {PostX : Pt → Array Value → Addr → Pt → Prop} (hK : vx_Back l R p e below s args y 3 W9 Pre Post PostX)
    {b : Addr} {cellB : Cell} (hcell : T.heap[b]? = some cellB) (hobj : cellB.vm.isStatics = false) (hcls : s.vm.findClass C = some cellB.cls)
    {g : JFrame} (hg : g.method = m) (hsize : g.locals.size = c.maxLocals) {argsL rest : List Value} (hlen : ∀ sig, parseMethodDescriptor y.desc = some sig → argsL.length = sig.parameters.length)
    (hstack : g.stack = argsL.reverse ++ .ref b :: rest) (hW : 2 * g.monitorRoom + (rest.map fun v => v.category).sum ≤ W9) (hdg : decode c.code g.pc = .ok (.invokevirtual index, 3))
    (hpre : ∀ vm₁, s.WarmedH vm₁ → Pre ⟨T.setVm vm₁, locs, cells, slots⟩ (Value.ref b :: argsL).toArray) :
    (∃ (v : Option Value) (vm₁ : Vm) (B : Pt), s.WarmedH vm₁ ∧ Stand p l e R s m args below meth c B.U B.locs B.cells B.slots ∧ Post ⟨T.setVm vm₁, locs, cells, slots⟩ (Value.ref b :: argsL).toArray v B ∧
      ∀ target, Steps p.tables e below (B.U.setTop { g with pc := g.pc + 3, stack := v.toList ++ rest }) target → Steps p.tables e below (T.setTop g) target) ∨
    (∃ (q : Addr) (vm₁ : Vm) (B : Pt), s.WarmedH vm₁ ∧ Stand p l e R s m args below meth c B.U B.locs B.cells B.slots ∧ PostX ⟨T.setVm vm₁, locs, cells, slots⟩ (Value.ref b :: argsL).toArray q B ∧
      Steps p.tables e below (T.setTop g) ((B.U.setTop { g with stack := rest }).pushFrame (.throwing q))) := by
  obtain ⟨mk, methM, hnamed, hmethM, hstM, habM⟩ := Cond.instanceMethod_spec hinst
  obtain ⟨methM', cM, hmethM', -, -, -, -, -, -, hsigM⟩ := Cond.code_spec hnamed hcode
  cases hmethM.symm.trans hmethM'
  obtain ⟨c2, r2, m2, q1, q2, q3, q4, kP, hkP, hkPi⟩ := Cond.selects_spec hsel
  cases hcls.symm.trans q1
  cases (State.methodFound?_of_named hnamed hy).symm.trans q2
  cases hnamed.symm.trans q3
  have hselP : selectMethod e.platform s.vm cellB.cls mk = .method mk := by rw [Launch.admits_selectMethod X.admits]; exact q4
  obtain ⟨vm₁, X₁, hstep₁⟩ := X.invokevirtual hexec hown hlink hnamed hmethM hstM hkP hkPi hy (a := b) (cell := cellB) hcell
    (fun z h => by rw [h] at hobj; cases hobj) hselP hmethM habM hkP hkPi (g := g) hg (argsL := argsL) (rest := rest) (hlen _ hsigM) hstack hdg
  rcases hK m meth c ⟨T.setVm vm₁, locs, cells, slots⟩ { g with stack := rest } (.invokevirtual index) mk (Value.ref b :: argsL).toArray X₁ hg hsize hdg hW (X₁.named hnamed) (hpre vm₁ X₁.warmed) with ⟨v, B, X', hpost, hsteps⟩ | ⟨q, B, X', hpost, hsteps⟩
  · exact Or.inl ⟨v, vm₁, B, X₁.warmed, X', hpost, fun target h => hstep₁ _ fun acts => by rw [doInvoke_state]; exact hsteps.trans h⟩
  · exact Or.inr ⟨q, vm₁, B, X₁.warmed, X', hpost, hstep₁ _ fun acts => by rw [doInvoke_state]; exact hsteps⟩
theorem vx_callS (X : Stand p l e R s m args below meth c T locs cells slots) (hexec : p.tables.exec = Jvm.exec) {own : String} {index : Nat} {y : MethodName} {bytes : ByteArray} {maxL : Nat} {ret : Option FieldType}
    (hown : s.vm.findClass own = some m.cls) (hlink : (Cond.methodLink own index y).before args s = true) (hstat : (Cond.static y).before args s = true) (hinit : (Cond.initialized y.cls).before args s = true)
    (hcode : (Cond.code y bytes maxL ret).before args s = true) (hy : y.cls ≠ "java/lang/invoke/MethodHandle" ∧ y.cls ≠ "java/lang/invoke/VarHandle")
    {W9 : Nat} {Pre : Pt → Array Value → Prop} {Post : Pt → Array Value → Option Value → Pt → Prop} {PostX : Pt → Array Value → Addr → Pt → Prop} (hK : vx_Back l R p e below s args y 3 W9 Pre Post PostX)
    {g : JFrame} (hg : g.method = m) (hsize : g.locals.size = c.maxLocals) {argsL rest : List Value} (hlen : ∀ sig, parseMethodDescriptor y.desc = some sig → argsL.length = sig.parameters.length)
    (hstack : g.stack = argsL.reverse ++ rest) (hW : 2 * g.monitorRoom + (rest.map fun v => v.category).sum ≤ W9) (hdg : decode c.code g.pc = .ok (.invokestatic index, 3))
    (hpre : ∀ vm₁, s.WarmedH vm₁ → Pre ⟨T.setVm vm₁, locs, cells, slots⟩ argsL.toArray) :
    (∃ (v : Option Value) (vm₁ : Vm) (B : Pt), s.WarmedH vm₁ ∧ Stand p l e R s m args below meth c B.U B.locs B.cells B.slots ∧ Post ⟨T.setVm vm₁, locs, cells, slots⟩ argsL.toArray v B ∧
      ∀ target, Steps p.tables e below (B.U.setTop { g with pc := g.pc + 3, stack := v.toList ++ rest }) target → Steps p.tables e below (T.setTop g) target) ∨
    (∃ (q : Addr) (vm₁ : Vm) (B : Pt), s.WarmedH vm₁ ∧ Stand p l e R s m args below meth c B.U B.locs B.cells B.slots ∧ PostX ⟨T.setVm vm₁, locs, cells, slots⟩ argsL.toArray q B ∧
      Steps p.tables e below (T.setTop g) ((B.U.setTop { g with stack := rest }).pushFrame (.throwing q))) := by
  obtain ⟨mk, hnamed⟩ := Cond.code_named hcode
  obtain ⟨methM, cM, hmethM, -, -, -, -, -, -, hsigM⟩ := Cond.code_spec hnamed hcode
  have hstatic : methM.isStatic = true := Cond.static_spec hnamed hmethM hstat
  obtain ⟨kP, hkP, -⟩ := className_of_methodNamed hnamed
  have hinitP : kP.init = .initialized := Cond.initialized_spec (findClass_of_methodNamed hnamed) hkP hinit
  obtain ⟨vm₁, X₁, hstep₁⟩ := X.invokestatic hexec hown hlink hnamed hmethM hstatic hkP hinitP hy (g := g) hg (argsL := argsL) (rest := rest) (hlen _ hsigM) hstack hdg
  rcases hK m meth c ⟨T.setVm vm₁, locs, cells, slots⟩ { g with stack := rest } (.invokestatic index) mk argsL.toArray X₁ hg hsize hdg hW (X₁.named hnamed) (hpre vm₁ X₁.warmed) with ⟨v, B, X', hpost, hsteps⟩ | ⟨q, B, X', hpost, hsteps⟩
  · exact Or.inl ⟨v, vm₁, B, X₁.warmed, X', hpost, fun target h => hstep₁ _ fun acts => by rw [doInvoke_state]; exact hsteps.trans h⟩
  · exact Or.inr ⟨q, vm₁, B, X₁.warmed, X', hpost, hstep₁ _ fun acts => by rw [doInvoke_state]; exact hsteps⟩
end Calls
theorem vx_cls {s : State} {T : State} {vm₁ : Vm} {E : String} {k : ClassId} (hW : s.WarmedH vm₁) (h : (T.setVm vm₁).vm.findClass E = some k) : s.vm.findClass E = some k := by
  have h1 : vm₁.findClass E = some k := h
  rw [hW.alike.findClass] at h1
  exact h1
/-- the method's frame g, with q thrown over it -/
def vx_W (p : Program) (l : Launch) (e : Env) (R : Room) (s : State) (m : MethodId) (args : Array Value) (below : List Frame) (meth : Method) (c : Code) (H : Heap) (locs : List Loc) (cells slots : Nat) (Q : State → Prop) (g : JFrame) (q : Addr) : Prop :=
  ∀ T : State, T.heap = H → Stand p l e R s m args below meth c T locs cells slots → ∃ t, Steps p.tables e below ((T.setTop g).pushFrame (.throwing q)) t ∧ Q t
def vx_Run (p : Program) (l : Launch) (e : Env) (R : Room) (s : State) (m : MethodId) (args : Array Value) (below : List Frame) (meth : Method) (c : Code) (H : Heap) (locs : List Loc) (cells slots mc ms : Nat) (g : JFrame) (rest : List Value) (Qa : State → Outcome → State → Prop) (XC : String → State → State → Prop) (free : Addr → Prop) : Prop :=
  ∀ T : State, T.heap = H → Stand p l e R s m args below meth c T locs cells slots →
    (∃ (v : Option Value) (st₀ t T' : State) (L : List Loc), st₀.heap = H ∧ Stand p l e R s m args below meth c T' (locs ++ L) (cells + mc) (slots + ms) ∧ (∀ q ∈ L, free q.base) ∧ T'.heap = t.heap ∧ T'.vm = t.vm ∧ Qa st₀ (.returned v) t ∧
      Goes p e below T g T' { g with pc := g.pc + 3, stack := v.toList ++ rest }) ∨
    (∃ (q : Addr) (st₀ t T' : State) (L : List Loc) (E : String) (ce : Cell), st₀.heap = H ∧ Stand p l e R s m args below meth c T' (locs ++ L) (cells + mc) (slots + ms) ∧ (∀ z ∈ L, free z.base) ∧ T'.heap = t.heap ∧ T'.vm = t.vm ∧ XC E st₀ t ∧ t.heap[q]? = some ce ∧ ce.vm = .none ∧ s.vm.findClass E = some ce.cls ∧
      Steps p.tables e below (T.setTop g) ((T'.setTop { g with stack := rest }).pushFrame (.throwing q)))
def vx_X {S : Type} (px : S → Prop) (B : String → S → State → Prop) (A : Nat → Prop) : String → State → State → Prop := fun E st t => ∃ u : S, px u ∧ B E u t ∧ va_F A st t
section Runs
variable {p : Program} {l : Launch} {e : Env} {R : Room} {s : State} {m : MethodId} {args : Array Value} {below : List Frame} {meth : Method} {c : Code} {H : Heap} {locs : List Loc} {cells slots : Nat}
variable {y : MethodName} {bytes cc : ByteArray} {maxL nL mc ms n index : Nat} {ret : Option FieldType} {ws : List Cond} {rm : Room} {Pc : Array Value → State → Prop} {Qc : Array Value → State → Outcome → State → Prop} {XC : String → State → State → Prop} {free : Addr → Prop} {Ts : List Cond} {own C : String} {b : Addr} {As rest : List Value} {g : JFrame}
theorem vx_callBack (cb : CallB R s args own index y bytes maxL ret ws rm mc ms n) (hM : vx_Met l y ws rm Pc Qc XC mc ms free) (hbl : FrameBlind Pc) : vx_Back l R p e below s args y 3 8 (PreOf R mc ms Pc) (PostOf Qc mc ms free) (vx_Post XC mc ms free) := by
  obtain ⟨hrc, hrs, hfr, hlo, hws, hcw, -, hini, -⟩ := cb
  exact vx_back (bytes := bytes) (maxL := maxL) (ret := ret) hM hbl hrc hrs hfr hlo hws hcw (fun a' U hW => word_at hW (Or.inl (by first | rfl | simp [Cond.onTables, Cond.keeps, Cond.steady])) hini)
theorem vx_runV (S : CallFix p m c cc nL s args Ts own) (hM : vx_Met l y ws rm Pc Qc XC mc ms free) (cw : CallW R s args own C index y bytes maxL ret ws rm mc ms n) (hp : PreV s H C b Pc As)
    (hg : g.method = m) (hn : As.length = n) (hsize : g.locals.size = nL) (hstack : g.stack = As.reverse ++ .ref b :: rest) (hW : 2 * g.monitorRoom + (rest.map fun v => v.category).sum ≤ 8) (hdg : decode cc g.pc = .ok (.invokevirtual index, 3)) (hf : cells + mc ≤ R.cells ∧ slots + ms ≤ R.slots) :
    vx_Run p l e R s m args below meth c H locs cells slots mc ms g rest (Qc (Value.ref b :: As).toArray) XC free := by
  have hK : vx_Back l R p e below s args y 3 8 (PreOf R mc ms Pc) (PostOf Qc mc ms free) (vx_Post XC mc ms free) := vx_callBack cw.1 hM hp.1
  obtain ⟨⟨-, -, -, -, -, -, hcode, -, hy, hlen, hl⟩, hin, hse⟩ := cw
  obtain ⟨hx, hb, hml, ho, -⟩ := S
  obtain ⟨-, ⟨cellB, hcB, hoB, hclB⟩, hPc⟩ := hp
  intro T hT X
  rcases vx_callV X hx (C := C) (bytes := bytes) (maxL := maxL) (ret := ret) ho hl hin hse hcode hy hK (by rw [hT]; exact hcB) hoB hclB hg (hsize.trans hml.symm) (argsL := As) (rest := rest) (fun sig h => hn.trans (hlen sig h)) hstack hW (by rw [hb]; exact hdg)
    (fun vm₁ hW₁ => ⟨hf.1, hf.2, hPc (T.setVm vm₁) hT hW₁⟩) with ⟨v, vm₁, ⟨U', l2, c2, s2⟩, hW₁, X', ⟨g', mk, t, L, e1, e2, hq, h1, hL, h2, h3⟩, st⟩ | ⟨q, vm₁, ⟨U', l2, c2, s2⟩, hW₁, X', ⟨g', mk, t, L, E, ce, e1, e2, hq, hce, hcv, hcl, h1, hL, h2, h3⟩, st⟩
  · dsimp only [Pt.U, Pt.locs, Pt.cells, Pt.slots] at X' e1 e2 h1 h2 h3 st
    subst h1; subst h2; subst h3
    exact Or.inl ⟨v, (T.setVm vm₁).calling g' mk (Value.ref b :: As).toArray, t, U', L, hT, X', hL, e1, e2, hq, st⟩
  · dsimp only [Pt.U, Pt.locs, Pt.cells, Pt.slots] at X' e1 e2 h1 h2 h3 st hcl
    subst h1; subst h2; subst h3
    exact Or.inr ⟨q, (T.setVm vm₁).calling g' mk (Value.ref b :: As).toArray, t, U', L, E, ce, hT, X', hL, e1, e2, hq, hce, hcv, vx_cls hW₁ hcl, st⟩
theorem vx_runS (S : CallFix p m c cc nL s args Ts own) (hM : vx_Met l y ws rm Pc Qc XC mc ms free) (cw : CallB R s args own index y bytes maxL ret ws rm mc ms n ∧ (Cond.static y).before args s = true) (hp : PreS s H Pc As)
    (hg : g.method = m) (hn : As.length = n) (hsize : g.locals.size = nL) (hstack : g.stack = As.reverse ++ rest) (hW : 2 * g.monitorRoom + (rest.map fun v => v.category).sum ≤ 8) (hdg : decode cc g.pc = .ok (.invokestatic index, 3)) (hf : cells + mc ≤ R.cells ∧ slots + ms ≤ R.slots) :
    vx_Run p l e R s m args below meth c H locs cells slots mc ms g rest (Qc As.toArray) XC free := by
  have hK : vx_Back l R p e below s args y 3 8 (PreOf R mc ms Pc) (PostOf Qc mc ms free) (vx_Post XC mc ms free) := vx_callBack cw.1 hM hp.1
  obtain ⟨⟨-, -, -, -, -, -, hcode, hini, hy, hlen, hl⟩, hstt⟩ := cw
  obtain ⟨hx, hb, hml, ho, -⟩ := S
  intro T hT X
  rcases vx_callS X hx (bytes := bytes) (maxL := maxL) (ret := ret) ho hl hstt hini hcode hy hK hg (hsize.trans hml.symm) (argsL := As) (rest := rest) (fun sig h => hn.trans (hlen sig h)) hstack hW (by rw [hb]; exact hdg)
    (fun vm₁ hW₁ => ⟨hf.1, hf.2, hp.2 (T.setVm vm₁) hT hW₁⟩) with ⟨v, vm₁, ⟨U', l2, c2, s2⟩, hW₁, X', ⟨g', mk, t, L, e1, e2, hq, h1, hL, h2, h3⟩, st⟩ | ⟨q, vm₁, ⟨U', l2, c2, s2⟩, hW₁, X', ⟨g', mk, t, L, E, ce, e1, e2, hq, hce, hcv, hcl, h1, hL, h2, h3⟩, st⟩
  · dsimp only [Pt.U, Pt.locs, Pt.cells, Pt.slots] at X' e1 e2 h1 h2 h3 st
    subst h1; subst h2; subst h3
    exact Or.inl ⟨v, (T.setVm vm₁).calling g' mk As.toArray, t, U', L, hT, X', hL, e1, e2, hq, st⟩
  · dsimp only [Pt.U, Pt.locs, Pt.cells, Pt.slots] at X' e1 e2 h1 h2 h3 st hcl
    subst h1; subst h2; subst h3
    exact Or.inr ⟨q, (T.setVm vm₁).calling g' mk As.toArray, t, U', L, E, ce, hT, X', hL, e1, e2, hq, hce, hcv, vx_cls hW₁ hcl, st⟩
end Runs
section Rows
variable {p : Program} {l : Launch} {e : Env} {R : Room} {s : State} {m : MethodId} {args : Array Value} {below : List Frame} {meth : Method} {c : Code} {H : Heap} {locs : List Loc} {cells slots : Nat} {Q : State → Prop}
variable {mc ms : Nat} {free : Addr → Prop} {A0 A1 : Nat → Prop} {H0 : Heap} {a : Array Value} {pc : Nat} {ls : Array Slot} {st0 rest : List Value}
theorem vx_keep {st₀ t T' : State} {L : List Loc} (h0 : st₀.heap = H) (e1 : T'.heap = t.heap) (hS : va_S A0 H0 H locs) (hA : ∀ q, q < H.size → A1 q → A0 q) (hf : ∀ q, free q → A0 q) (hL : ∀ q ∈ L, free q.base) (hF : va_F A1 st₀ t) :
    H.size ≤ T'.heap.size ∧ (∀ q : Nat, q < H.size → ¬ A1 q → T'.heap[q]? = H[q]?) ∧ va_S A0 H0 T'.heap (locs ++ L) := by
  obtain ⟨hz, hk⟩ := hF
  rw [h0] at hz hk
  exact ⟨by rw [e1]; exact hz, fun q h1 h2 => by rw [e1]; exact hk q h1 h2,
    ⟨Nat.le_trans hS.1 (by rw [e1]; exact hz), fun q h1 h2 => by rw [e1, hk q (Nat.lt_of_lt_of_le h1 hS.1) (fun z => h2 (hA q (Nat.lt_of_lt_of_le h1 hS.1) z))]; exact hS.2.1 q h1 h2, fun q hq => by
      rcases List.mem_append.mp hq with h | h
      · exact hS.2.2 q h
      · exact hf _ (hL q h)⟩⟩
theorem vx_calli {S SX : Type} {post : Int32 → S → Prop} {px : SX → Prop} {B : S → State → Prop} {BX : String → SX → State → Prop} {AX : Nat → Prop} (hr : vx_Run p l e R s m args below meth c H locs cells slots mc ms (F0 m pc ls st0) rest (va_Qi post B A1 a) (vx_X px BX AX) free) (hS : va_S A0 H0 H locs) (hA : ∀ q, q < H.size → A1 q → A0 q) (hf : ∀ q, free q → A0 q) (hAX : ∀ q, q < H.size → AX q → A0 q)
    (kx : ∀ (E : String) (ce : Cell) (q9 : Addr) (u : SX) (t : State) (H1 : Heap) (locs1 : List Loc), t.heap = H1 → s.vm.Alike t.vm → px u → BX E u t → H.size ≤ H1.size → (∀ q : Nat, q < H.size → ¬ AX q → H1[q]? = H[q]?) → va_S A0 H0 H1 locs1 → H1[q9]? = some ce → ce.vm = .none → s.vm.findClass E = some ce.cls → vx_W p l e R s m args below meth c H1 locs1 (cells + mc) (slots + ms) Q (F0 m pc ls rest) q9)
    (kk : ∀ (r : Int32) (u : S) (t : State) (H1 : Heap) (locs1 : List Loc), t.heap = H1 → s.vm.Alike t.vm → post r u → B u t → H.size ≤ H1.size → (∀ q : Nat, q < H.size → ¬ A1 q → H1[q]? = H[q]?) → va_S A0 H0 H1 locs1 → W p l e R s m args below meth c H1 locs1 (cells + mc) (slots + ms) Q (F0 m (pc + 3) ls (.int r :: rest))) : W p l e R s m args below meth c H locs cells slots Q (F0 m pc ls st0) := by
  intro T hT X
  rcases hr T hT X with ⟨v, st₀, t, T', L, h0, X', hL, e1, e2, ⟨⟨r, u, hv, hp, hb⟩, hF⟩, st⟩ | ⟨q, st₀, t, T', L, E, ce, h0, X', hL, e1, e2, ⟨u, hp, hb, hF⟩, hce, hcv, hcl, st⟩
  · cases hv
    obtain ⟨k1, k2, k3⟩ := vx_keep h0 e1 hS hA hf hL hF
    obtain ⟨t2, a1, b1⟩ := kk r u t T'.heap (locs ++ L) e1.symm (by rw [← e2]; exact X'.warmed.alike) hp hb k1 k2 k3 T' rfl X'
    exact ⟨t2, st t2 a1, b1⟩
  · obtain ⟨k1, k2, k3⟩ := vx_keep h0 e1 hS hAX hf hL hF
    obtain ⟨t2, a1, b1⟩ := kx E ce q u t T'.heap (locs ++ L) e1.symm (by rw [← e2]; exact X'.warmed.alike) hp hb k1 k2 k3 (by rw [e1]; exact hce) hcv hcl T' rfl X'
    exact ⟨t2, st.trans a1, b1⟩
theorem vx_calll {S SX : Type} {post : Int64 → S → Prop} {px : SX → Prop} {B : S → State → Prop} {BX : String → SX → State → Prop} {AX : Nat → Prop} (hr : vx_Run p l e R s m args below meth c H locs cells slots mc ms (F0 m pc ls st0) rest (va_Ql post B A1 a) (vx_X px BX AX) free) (hS : va_S A0 H0 H locs) (hA : ∀ q, q < H.size → A1 q → A0 q) (hf : ∀ q, free q → A0 q) (hAX : ∀ q, q < H.size → AX q → A0 q)
    (kx : ∀ (E : String) (ce : Cell) (q9 : Addr) (u : SX) (t : State) (H1 : Heap) (locs1 : List Loc), t.heap = H1 → s.vm.Alike t.vm → px u → BX E u t → H.size ≤ H1.size → (∀ q : Nat, q < H.size → ¬ AX q → H1[q]? = H[q]?) → va_S A0 H0 H1 locs1 → H1[q9]? = some ce → ce.vm = .none → s.vm.findClass E = some ce.cls → vx_W p l e R s m args below meth c H1 locs1 (cells + mc) (slots + ms) Q (F0 m pc ls rest) q9)
    (kk : ∀ (r : Int64) (u : S) (t : State) (H1 : Heap) (locs1 : List Loc), t.heap = H1 → s.vm.Alike t.vm → post r u → B u t → H.size ≤ H1.size → (∀ q : Nat, q < H.size → ¬ A1 q → H1[q]? = H[q]?) → va_S A0 H0 H1 locs1 → W p l e R s m args below meth c H1 locs1 (cells + mc) (slots + ms) Q (F0 m (pc + 3) ls (.long r :: rest))) : W p l e R s m args below meth c H locs cells slots Q (F0 m pc ls st0) := by
  intro T hT X
  rcases hr T hT X with ⟨v, st₀, t, T', L, h0, X', hL, e1, e2, ⟨⟨r, u, hv, hp, hb⟩, hF⟩, st⟩ | ⟨q, st₀, t, T', L, E, ce, h0, X', hL, e1, e2, ⟨u, hp, hb, hF⟩, hce, hcv, hcl, st⟩
  · cases hv
    obtain ⟨k1, k2, k3⟩ := vx_keep h0 e1 hS hA hf hL hF
    obtain ⟨t2, a1, b1⟩ := kk r u t T'.heap (locs ++ L) e1.symm (by rw [← e2]; exact X'.warmed.alike) hp hb k1 k2 k3 T' rfl X'
    exact ⟨t2, st t2 a1, b1⟩
  · obtain ⟨k1, k2, k3⟩ := vx_keep h0 e1 hS hAX hf hL hF
    obtain ⟨t2, a1, b1⟩ := kx E ce q u t T'.heap (locs ++ L) e1.symm (by rw [← e2]; exact X'.warmed.alike) hp hb k1 k2 k3 (by rw [e1]; exact hce) hcv hcl T' rfl X'
    exact ⟨t2, st.trans a1, b1⟩
theorem vx_callf {S SX : Type} {post : UInt32 → S → Prop} {px : SX → Prop} {B : S → State → Prop} {BX : String → SX → State → Prop} {AX : Nat → Prop} (hr : vx_Run p l e R s m args below meth c H locs cells slots mc ms (F0 m pc ls st0) rest (va_Qf post B A1 a) (vx_X px BX AX) free) (hS : va_S A0 H0 H locs) (hA : ∀ q, q < H.size → A1 q → A0 q) (hf : ∀ q, free q → A0 q) (hAX : ∀ q, q < H.size → AX q → A0 q)
    (kx : ∀ (E : String) (ce : Cell) (q9 : Addr) (u : SX) (t : State) (H1 : Heap) (locs1 : List Loc), t.heap = H1 → s.vm.Alike t.vm → px u → BX E u t → H.size ≤ H1.size → (∀ q : Nat, q < H.size → ¬ AX q → H1[q]? = H[q]?) → va_S A0 H0 H1 locs1 → H1[q9]? = some ce → ce.vm = .none → s.vm.findClass E = some ce.cls → vx_W p l e R s m args below meth c H1 locs1 (cells + mc) (slots + ms) Q (F0 m pc ls rest) q9)
    (kk : ∀ (r : UInt32) (u : S) (t : State) (H1 : Heap) (locs1 : List Loc), t.heap = H1 → s.vm.Alike t.vm → post r u → B u t → H.size ≤ H1.size → (∀ q : Nat, q < H.size → ¬ A1 q → H1[q]? = H[q]?) → va_S A0 H0 H1 locs1 → W p l e R s m args below meth c H1 locs1 (cells + mc) (slots + ms) Q (F0 m (pc + 3) ls (.float r :: rest))) : W p l e R s m args below meth c H locs cells slots Q (F0 m pc ls st0) := by
  intro T hT X
  rcases hr T hT X with ⟨v, st₀, t, T', L, h0, X', hL, e1, e2, ⟨⟨r, u, hv, hp, hb⟩, hF⟩, st⟩ | ⟨q, st₀, t, T', L, E, ce, h0, X', hL, e1, e2, ⟨u, hp, hb, hF⟩, hce, hcv, hcl, st⟩
  · cases hv
    obtain ⟨k1, k2, k3⟩ := vx_keep h0 e1 hS hA hf hL hF
    obtain ⟨t2, a1, b1⟩ := kk r u t T'.heap (locs ++ L) e1.symm (by rw [← e2]; exact X'.warmed.alike) hp hb k1 k2 k3 T' rfl X'
    exact ⟨t2, st t2 a1, b1⟩
  · obtain ⟨k1, k2, k3⟩ := vx_keep h0 e1 hS hAX hf hL hF
    obtain ⟨t2, a1, b1⟩ := kx E ce q u t T'.heap (locs ++ L) e1.symm (by rw [← e2]; exact X'.warmed.alike) hp hb k1 k2 k3 (by rw [e1]; exact hce) hcv hcl T' rfl X'
    exact ⟨t2, st.trans a1, b1⟩
theorem vx_calld {S SX : Type} {post : UInt64 → S → Prop} {px : SX → Prop} {B : S → State → Prop} {BX : String → SX → State → Prop} {AX : Nat → Prop} (hr : vx_Run p l e R s m args below meth c H locs cells slots mc ms (F0 m pc ls st0) rest (va_Qd post B A1 a) (vx_X px BX AX) free) (hS : va_S A0 H0 H locs) (hA : ∀ q, q < H.size → A1 q → A0 q) (hf : ∀ q, free q → A0 q) (hAX : ∀ q, q < H.size → AX q → A0 q)
    (kx : ∀ (E : String) (ce : Cell) (q9 : Addr) (u : SX) (t : State) (H1 : Heap) (locs1 : List Loc), t.heap = H1 → s.vm.Alike t.vm → px u → BX E u t → H.size ≤ H1.size → (∀ q : Nat, q < H.size → ¬ AX q → H1[q]? = H[q]?) → va_S A0 H0 H1 locs1 → H1[q9]? = some ce → ce.vm = .none → s.vm.findClass E = some ce.cls → vx_W p l e R s m args below meth c H1 locs1 (cells + mc) (slots + ms) Q (F0 m pc ls rest) q9)
    (kk : ∀ (r : UInt64) (u : S) (t : State) (H1 : Heap) (locs1 : List Loc), t.heap = H1 → s.vm.Alike t.vm → post r u → B u t → H.size ≤ H1.size → (∀ q : Nat, q < H.size → ¬ A1 q → H1[q]? = H[q]?) → va_S A0 H0 H1 locs1 → W p l e R s m args below meth c H1 locs1 (cells + mc) (slots + ms) Q (F0 m (pc + 3) ls (.double r :: rest))) : W p l e R s m args below meth c H locs cells slots Q (F0 m pc ls st0) := by
  intro T hT X
  rcases hr T hT X with ⟨v, st₀, t, T', L, h0, X', hL, e1, e2, ⟨⟨r, u, hv, hp, hb⟩, hF⟩, st⟩ | ⟨q, st₀, t, T', L, E, ce, h0, X', hL, e1, e2, ⟨u, hp, hb, hF⟩, hce, hcv, hcl, st⟩
  · cases hv
    obtain ⟨k1, k2, k3⟩ := vx_keep h0 e1 hS hA hf hL hF
    obtain ⟨t2, a1, b1⟩ := kk r u t T'.heap (locs ++ L) e1.symm (by rw [← e2]; exact X'.warmed.alike) hp hb k1 k2 k3 T' rfl X'
    exact ⟨t2, st t2 a1, b1⟩
  · obtain ⟨k1, k2, k3⟩ := vx_keep h0 e1 hS hAX hf hL hF
    obtain ⟨t2, a1, b1⟩ := kx E ce q u t T'.heap (locs ++ L) e1.symm (by rw [← e2]; exact X'.warmed.alike) hp hb k1 k2 k3 (by rw [e1]; exact hce) hcv hcl T' rfl X'
    exact ⟨t2, st.trans a1, b1⟩
theorem vx_callv {S SX : Type} {post : S → Prop} {px : SX → Prop} {B : S → State → Prop} {BX : String → SX → State → Prop} {AX : Nat → Prop} (hr : vx_Run p l e R s m args below meth c H locs cells slots mc ms (F0 m pc ls st0) rest (va_Qv post B A1 a) (vx_X px BX AX) free) (hS : va_S A0 H0 H locs) (hA : ∀ q, q < H.size → A1 q → A0 q) (hf : ∀ q, free q → A0 q) (hAX : ∀ q, q < H.size → AX q → A0 q)
    (kx : ∀ (E : String) (ce : Cell) (q9 : Addr) (u : SX) (t : State) (H1 : Heap) (locs1 : List Loc), t.heap = H1 → s.vm.Alike t.vm → px u → BX E u t → H.size ≤ H1.size → (∀ q : Nat, q < H.size → ¬ AX q → H1[q]? = H[q]?) → va_S A0 H0 H1 locs1 → H1[q9]? = some ce → ce.vm = .none → s.vm.findClass E = some ce.cls → vx_W p l e R s m args below meth c H1 locs1 (cells + mc) (slots + ms) Q (F0 m pc ls rest) q9)
    (kk : ∀ (u : S) (t : State) (H1 : Heap) (locs1 : List Loc), t.heap = H1 → s.vm.Alike t.vm → post u → B u t → H.size ≤ H1.size → (∀ q : Nat, q < H.size → ¬ A1 q → H1[q]? = H[q]?) → va_S A0 H0 H1 locs1 → W p l e R s m args below meth c H1 locs1 (cells + mc) (slots + ms) Q (F0 m (pc + 3) ls (rest))) : W p l e R s m args below meth c H locs cells slots Q (F0 m pc ls st0) := by
  intro T hT X
  rcases hr T hT X with ⟨v, st₀, t, T', L, h0, X', hL, e1, e2, ⟨⟨u, hv, hp, hb⟩, hF⟩, st⟩ | ⟨q, st₀, t, T', L, E, ce, h0, X', hL, e1, e2, ⟨u, hp, hb, hF⟩, hce, hcv, hcl, st⟩
  · cases hv
    obtain ⟨k1, k2, k3⟩ := vx_keep h0 e1 hS hA hf hL hF
    obtain ⟨t2, a1, b1⟩ := kk u t T'.heap (locs ++ L) e1.symm (by rw [← e2]; exact X'.warmed.alike) hp hb k1 k2 k3 T' rfl X'
    exact ⟨t2, st t2 a1, b1⟩
  · obtain ⟨k1, k2, k3⟩ := vx_keep h0 e1 hS hAX hf hL hF
    obtain ⟨t2, a1, b1⟩ := kx E ce q u t T'.heap (locs ++ L) e1.symm (by rw [← e2]; exact X'.warmed.alike) hp hb k1 k2 k3 (by rw [e1]; exact hce) hcv hcl T' rfl X'
    exact ⟨t2, st.trans a1, b1⟩
end Rows
section Ends
variable {p : Program} {l : Launch} {e : Env} {R : Room} {s : State} {m : MethodId} {args : Array Value} {below : List Frame} {meth : Method} {c : Code} {H : Heap} {locs : List Loc} {cells slots : Nat} {Q : State → Prop}
variable {mc ms : Nat} {free : Addr → Prop} {A0 A1 : Nat → Prop} {H0 : Heap} {a : Array Value} {ls : Array Slot} {st0 rest : List Value}
variable {Qc : Array Value → State → Outcome → State → Prop} {XC : String → State → State → Prop}
/-- what a body that may throw owes at its end -/
def vx_MQ (below : List Frame) (Qc : Array Value → State → Outcome → State → Prop) (XC : String → State → State → Prop) (a : Array Value) (s : State) (mc ms : Nat) (free : Addr → Prop) : State → Prop := fun t =>
  ∃ o, t.status = .running ∧ Ended t below o ∧ vx_Q Qc XC mc ms free a s o t
theorem vx_ret {g : JFrame} {mc ms : Nat} (k : W p l e R s m args below meth c H locs cells slots (MQ below Qc args s mc ms free) g) : W p l e R s m args below meth c H locs cells slots (vx_MQ below Qc XC args s mc ms free) g := by
  intro T hT X
  obtain ⟨t, a1, o, b1, b2, b3, b4⟩ := k T hT X
  exact ⟨t, a1, o, b1, b2, Or.inl ⟨b3, b4⟩⟩
/-- not caught here: it goes on to the caller -/
theorem vx_widen {g : JFrame} {q : Addr} {k n : Nat} (h1 : cells ≤ k) (h2 : slots ≤ n) (kk : vx_W p l e R s m args below meth c H locs k n Q g q) : vx_W p l e R s m args below meth c H locs cells slots Q g q := fun T hT X => kk T hT (stand_widen X h1 h2)
theorem vx_out {pc : Nat} {E : String} {ce : Cell} {q : Addr} {mc ms : Nat} (hout : ∀ x ∈ c.exceptionTable.toList, covers x pc = false) (hlocks : meth.locks = false) (hcell : H[q]? = some ce) (hv : ce.vm = .none) (hcl : s.vm.findClass E = some ce.cls)
    (hx : ∀ t : State, t.heap = H → s.vm.Alike t.vm → XC E s t) (hf : ∀ z ∈ locs, free z.base) (hc : cells ≤ mc) (hs : slots ≤ ms) :
    vx_W p l e R s m args below meth c H locs cells slots (vx_MQ below Qc XC args s mc ms free) (F0 m pc ls rest) q := by
  intro T hT X
  obtain ⟨st1, hrun, hend, hW, hsm⟩ := X.leaveThrown q (g := F0 m pc ls rest) rfl rfl rfl hout hlocks
  have hcell9 : (T.setFrames (.throwing q :: below)).heap[q]? = some ce := by
    show T.heap[q]? = some ce
    rw [hT]; exact hcell
  exact ⟨_, st1, .threw q, hrun, hend, Or.inr ⟨q, rfl, E, ce, locs, hx _ hT hW.alike, hcell9, hv, hcl, hW, hsm.mono hc hs, hf⟩⟩
theorem vx_frame {U : State} {k n : Nat} (h : s.sameButNew ({ U with vm := s.vm } : State) locs k n) : s.heap.size ≤ U.heap.size ∧ ∀ q : Nat, q < s.heap.size → (∀ z ∈ locs, z.base ≠ q) → U.heap[q]? = s.heap[q]? := by
  obtain ⟨-, h2, -, -, -, h6⟩ := h
  refine ⟨h2, fun q hq hz => ?_⟩
  obtain ⟨c9, e1, e2, e3, e4⟩ := h6 q _ (Array.getElem?_eq_getElem hq)
  have hs : c9.slots = (s.heap[q]).slots := Array.ext_getElem? fun i => e4 i fun hm => hz _ hm rfl
  have h9 : c9 = s.heap[q] := by
    rw [hs] at e2
    exact e2
  have e5 : U.heap[q]? = some c9 := e1
  rw [e5, h9, Array.getElem?_eq_getElem hq]
/-- the words of a throw but the four that speak of the heap -/
def vx_no (w : Cond) : Bool := decide (w ≠ .isRef (.static Bundle.tN "UNASSIGNED_STACK" Bundle.steD)) && decide (w ≠ .isRef (.static Bundle.tN "SUPPRESSED_SENTINEL" Bundle.listD)) && decide (w ≠ .laysStatic Bundle.tN "UNASSIGNED_STACK" Bundle.steD) && decide (w ≠ .laysStatic Bundle.tN "SUPPRESSED_SENTINEL" Bundle.listD)
def vx_at0 (own : String) (ic : Nat) (X : String) (names : List String) : List Cond := (Bundle.ownAtoms0 own ic X names).filter vx_no
def vx_atS (own : String) (ic : Nat) (X : String) (names : List String) : List Cond := (Bundle.ownAtoms own ic X names).filter vx_no
/-- a word that the tables alone decide, or a good one -/
def vx_ot (w : Cond) : Bool := w.onTables || goodWord w
theorem vx_ot_at {args a' : Array Value} {s U : State} {w : Cond} (hW : s.WarmedH U.vm) (hvm : s.vm = U.vm) (hg : vx_ot w = true) (h : w.before args s = true) : w.before a' U = true := by
  simp only [vx_ot, Bool.or_eq_true] at hg
  rcases hg with hg | hg
  · exact va_tabs hg hvm h
  · exact word_at hW (good_of_word hg) h
/-- a list's words: the good ones out of the method's own list, the others by premises of their own -/
theorem vx_hat {args : Array Value} {s : State} {L B : List Cond} (h1 : ∀ w ∈ L.filter goodWord, w.before args s = true) (h2 : ∀ w ∈ L.filter (fun w => !goodWord w), w ∈ B) (h3 : ∀ w ∈ B, w.before args s = true) : ∀ w ∈ L, w.before args s = true := by
  intro w hw
  by_cases g : goodWord w = true
  · exact h1 w (List.mem_filter.mpr ⟨hw, g⟩)
  · refine h3 w (h2 w (List.mem_filter.mpr ⟨hw, ?_⟩))
    show (!goodWord w) = true
    cases hgw : goodWord w
    · rfl
    · exact absurd hgw g
theorem vx_c {args : Array Value} {s : State} {w : Cond} {B : List Cond} (h : w.before args s = true) (t : ∀ w ∈ B, w.before args s = true) : ∀ w' ∈ w :: B, w'.before args s = true := fun w' h' => (List.mem_cons.mp h').elim (fun e => by rw [e]; exact h) (t w')
theorem vx_n {args : Array Value} {s : State} : ∀ w ∈ ([] : List Cond), w.before args s = true := fun _ h => nomatch h
theorem vx_own {args : Array Value} {s : State} {L : List Cond} (h1 : ∀ w ∈ L.filter vx_no, w.before args s = true)
    (hU : (Cond.isRef (.static Bundle.tN "UNASSIGNED_STACK" Bundle.steD)).before args s = true) (hN : (Cond.isRef (.static Bundle.tN "SUPPRESSED_SENTINEL" Bundle.listD)).before args s = true)
    (lU : (Cond.laysStatic Bundle.tN "UNASSIGNED_STACK" Bundle.steD).before args s = true) (lN : (Cond.laysStatic Bundle.tN "SUPPRESSED_SENTINEL" Bundle.listD).before args s = true) : ∀ w ∈ L, w.before args s = true := by
  intro w hw
  by_cases e1 : w = .isRef (.static Bundle.tN "UNASSIGNED_STACK" Bundle.steD)
  · rw [e1]; exact hU
  · by_cases e2 : w = .isRef (.static Bundle.tN "SUPPRESSED_SENTINEL" Bundle.listD)
    · rw [e2]; exact hN
    · by_cases e3 : w = .laysStatic Bundle.tN "UNASSIGNED_STACK" Bundle.steD
      · rw [e3]; exact lU
      · by_cases e4 : w = .laysStatic Bundle.tN "SUPPRESSED_SENTINEL" Bundle.listD
        · rw [e4]; exact lN
        · exact h1 w (List.mem_filter.mpr ⟨hw, by unfold vx_no; rw [decide_eq_true e1, decide_eq_true e2, decide_eq_true e3, decide_eq_true e4]; rfl⟩)
/-- where a static field lies, its class's statics cell in H -/
def vx_L (C n d : String) (A : Nat → Prop) (U : State) (H : Heap) : Prop := ∃ (c : ClassId) (k : Class) (i : Nat) (f : Field) (a : Nat) (cell : Cell), U.vm.findClass C = some c ∧ U.fieldFound? C n d = some (c, k, i, f) ∧ f.isStatic = true ∧ k.statics = some a ∧ H[a]? = some cell ∧ cell.vm.isStatics = true ∧ cell.cls = c ∧ f.slot < cell.slots.size ∧ k.staticTypes[f.slot]? = some f.type ∧ ¬ A a
theorem vx_L.moved {C n d : String} {A : Nat → Prop} {u U : State} {H : Heap} (hvm : u.vm.Alike U.vm) (h : vx_L C n d A u H) : vx_L C n d A U H := by
  obtain ⟨c, k, i, f, a, cell, h1, h2, h3, h4, h5, h6, h7, h8, h9, h10⟩ := h
  obtain ⟨k', hi', he⟩ := State.fieldFound?_setVm hvm h2
  exact ⟨c, k', i, f, a, cell, by rw [hvm.findClass]; exact h1, hi', h3, by rw [he]; exact h4, h5, h6, h7, h8, by rw [he]; exact h9, h10⟩
theorem vx_L.kept {C n d : String} {A : Nat → Prop} {U : State} {H H1 : Heap} (h : vx_L C n d A U H) (hq : ∀ a : Nat, a < H.size → ¬ A a → H1[a]? = H[a]?) : vx_L C n d A U H1 := by
  obtain ⟨c, k, i, f, a, cell, h1, h2, h3, h4, h5, h6, h7, h8, h9, h10⟩ := h
  exact ⟨c, k, i, f, a, cell, h1, h2, h3, h4, by rw [hq a (Array.getElem?_eq_some_iff.mp h5).1 h10]; exact h5, h6, h7, h8, h9, h10⟩
theorem vx_L.narrow {C n d : String} {A B : Nat → Prop} {U : State} {H : Heap} (h : vx_L C n d A U H) (hAB : ∀ q, B q → A q) : vx_L C n d B U H := by
  obtain ⟨c, k, i, f, a, cell, h1, h2, h3, h4, h5, h6, h7, h8, h9, h10⟩ := h
  exact ⟨c, k, i, f, a, cell, h1, h2, h3, h4, h5, h6, h7, h8, h9, fun z => h10 (hAB _ z)⟩
theorem vx_L.word {C n d : String} {A : Nat → Prop} {s : State} {args : Array Value} (h : vx_L C n d A s s.heap) : (Cond.laysStatic C n d).before args s = true := by
  obtain ⟨c, k, i, f, a, cell, h1, h2, h3, h4, h5, h6, h7, h8, h9, -⟩ := h
  show (Cond.laysStatic C n d).holds args s none s [] = true
  exact Cond.laysStatic_of h1 h2 h3 h4 h5 h6 h7 h8 h9
/-- .. and what it holds: null or some reference -/
def vx_Zq (C n d : String) (A : Nat → Prop) (U : State) (H : Heap) : Prop := va_Zq C n d A U H ∧ vx_L C n d A U H
theorem vx_Zq.moved {C n d : String} {A : Nat → Prop} {u U : State} {H : Heap} (hvm : u.vm.Alike U.vm) (h : vx_Zq C n d A u H) : vx_Zq C n d A U H := ⟨va_Zq.moved hvm h.1, vx_L.moved hvm h.2⟩
theorem vx_Zq.kept {C n d : String} {A : Nat → Prop} {U : State} {H H1 : Heap} (h : vx_Zq C n d A U H) (hq : ∀ a : Nat, a < H.size → ¬ A a → H1[a]? = H[a]?) : vx_Zq C n d A U H1 := ⟨va_Zq.kept h.1 hq, vx_L.kept h.2 hq⟩
theorem vx_Zq.narrow {C n d : String} {A B : Nat → Prop} {U : State} {H : Heap} (h : vx_Zq C n d A U H) (hAB : ∀ q, B q → A q) : vx_Zq C n d B U H := ⟨va_Zq.narrow h.1 hAB, vx_L.narrow h.2 hAB⟩
theorem vx_Zqof {args : Array Value} {s : State} {C n d : String} {A : Nat → Prop} (hl : (Cond.laysStatic C n d).before args s = true) (hini : (Cond.initialized C).before args s = true) (h : (Cond.isRef (.static C n d)).before args s = true) (hA : ∀ a : Nat, a < s.heap.size → ¬ A a) : vx_Zq C n d A s s.heap := by
  refine ⟨va_Zqof hl hini h hA, ?_⟩
  obtain ⟨c, k, i, f, a, cell, h1, h2, h3, h4, h5, h6, h7, h8, h9⟩ := Cond.laysStatic_spec hl
  exact ⟨c, k, i, f, a, cell, h1, h2, h3, h4, h5, h6, h7, h8, h9, hA a (Array.getElem?_eq_some_iff.mp h5).1⟩
theorem vx_isRef {C n d : String} {v : Value} {A : Nat → Prop} {s : State} {args : Array Value} (h : va_Z C n d v A s s.heap) (hv : v.isRef = true) : (Cond.isRef (.static C n d)).before args s = true := by
  obtain ⟨cf, kf, fi, f, a, cell, h1, h2, h3, h4, h5, h6, h7, -⟩ := h
  have he : (Term.static C n d).eval args s none [] s = some v := by
    simp [Term.eval, State.fieldNamed?, h1, h2, h4, h5, h6, h7]
  simp only [Cond.before, Cond.holds, Cond.value, he]
  cases v <;> simp_all [Value.isRef]
theorem vx_isRefq {C n d : String} {A : Nat → Prop} {s : State} {args : Array Value} (h : va_Zq C n d A s s.heap) : (Cond.isRef (.static C n d)).before args s = true := by
  rcases h with h | ⟨t, h⟩
  · exact vx_isRef h rfl
  · exact vx_isRef h rfl
/-- the same frame, seen from here: as if the method were called anew in this heap -/
theorem vx_rebase {T : State} (X : Stand p l e R s m args below meth c T locs cells slots) {R' : Room} (hf : R'.frames ≤ R.frames) (hl : R'.locals ≤ R.locals) (hc : cells + R'.cells ≤ R.cells) (hs : slots + R'.slots ≤ R.slots) :
    Stand p l e R' ((T.setVm s.vm).setFrames (.invoking m args :: below)) m args below meth c T [] 0 0 := by
  have htop : (T.setVm s.vm).topJava?.isSome := X.here.top
  have hF : ((T.setVm s.vm).setFrames (.invoking m args :: below)).frames = .invoking m args :: below := State.frames_setFrames _ (State.cur_lt_of_top htop)
  obtain ⟨g₀, hg0⟩ := Option.isSome_iff_exists.mp htop
  obtain ⟨r, hr⟩ := State.topJava?_eq_some.mp hg0
  have hl9 : e.platform.stackLimits (T.setVm s.vm).me = e.platform.stackLimits s.me := X.limits
  have hb9 : (T.setVm s.vm).me.stackBytes = s.me.stackBytes := X.bytes
  refine ⟨X.admits, X.cas, X.clock, hF, ?_, X.hears, X.method, X.code, X.here, X.tail, X.warmed, ?_, ?_, ?_⟩
  · have h := X.room
    have hU : ((T.setVm s.vm).setFrames (.invoking m args :: below)).localsInUse = s.localsInUse := by
      rw [State.localsInUse_invoking hF (meth := meth) (c := c) X.method X.code, State.localsInUse_invoking X.frames X.method X.code]
    simp only [State.hasRoom, Bool.and_eq_true, decide_eq_true_eq] at h ⊢
    obtain ⟨⟨⟨⟨h1, h2, h3, h4, h5, h6⟩, h7⟩, h8⟩, h9⟩ := h
    rw [X.frames, List.length_cons] at h2 h3
    have q1 := X.heapSize
    have q2 := X.used
    simp only [hF, hU, List.length_cons, State.stackLimits_setFrames, State.stackBytes_setFrames, hl9, hb9]
    refine ⟨⟨⟨⟨by omega, by omega, by omega, by omega, by omega, h6⟩, ?_⟩, ?_⟩, X.book⟩
    · show T.heap.size + R'.cells ≤ e.platform.maxCells
      omega
    · show T.slotsUsed + R'.slots ≤ e.platform.maxSlots
      omega
  · rw [State.stackLimits_setFrames]; rfl
  · rw [State.stackBytes_setFrames]; rfl
  · refine ⟨?_, Nat.le_refl _, Nat.le_refl _, ?_, ?_, fun a c9 h9 => ⟨c9, h9, rfl, rfl, fun _ _ => rfl⟩⟩
    · obtain ⟨t, ht, -⟩ := State.frames_cons hr
      show T.setVm s.vm = { ((T.setVm s.vm).setFrames (.invoking m args :: below)).setFrames (T.setVm s.vm).frames with heap := T.heap, slotsUsed := T.slotsUsed }
      rw [State.setFrames_setFrames, State.setFrames_self ht]
      rfl
    · show T.slotsUsed = T.slotsUsed + ((T.heap.toList.drop T.heap.size).map (·.slots.size)).sum
      rw [List.drop_eq_nil_of_le (Nat.le_of_eq Array.length_toList)]
      rfl
    · show ((T.heap.toList.drop T.heap.size).map (·.slots.size)).sum ≤ 0
      rw [List.drop_eq_nil_of_le (Nat.le_of_eq Array.length_toList)]
      exact Nat.le_refl _
/-- 'throw new E()': new; dup; invokespecial; athrow -/
theorem vx_throw0 {cc : ByteArray} {pc : Nat} (hexec : p.tables.exec = Jvm.exec) (hb : c.code = cc) (hl : l.stackTraces = false) {own cls : String} {names : List String} {ik ic mc ms : Nat} {A : Nat → Prop}
    (hown : s.vm.findClass own = some m.cls) (hcls : Bundle.fit cls = true) (hnames : ∀ n ∈ names, Bundle.fit n = true)
    (hk : (Cond.classLink own ik cls).before args s = true) (hini : (Cond.initialized cls).before args s = true) (hat : ∀ w ∈ vx_at0 own ic cls names, w.before args s = true)
    (hgood : ∀ w ∈ Cond.classLink own ik cls :: Cond.initialized cls :: vx_at0 own ic cls names, vx_ot w = true)
    (hU : vx_Zq Bundle.tN "UNASSIGNED_STACK" Bundle.steD A s s.heap) (hN : vx_Zq Bundle.tN "SUPPRESSED_SENTINEL" Bundle.listD A s s.heap) (hS : va_S A s.heap H locs) (hsize : ls.size = c.maxLocals)
    (d0 : decode cc pc = .ok (.new ik, 3)) (d3 : decode cc (pc + 3) = .ok (.dup, 1)) (d4 : decode cc (pc + 4) = .ok (.invokespecial ic, 3)) (d7 : decode cc (pc + 7) = .ok (.athrow, 1))
    (hout : ∀ x ∈ c.exceptionTable.toList, covers x (pc + 7) = false)
    (hRframes : names.length + 3 < R.frames) (hRlocals : (rest.map fun v => v.category).sum + (13 * (names.length + 1) + 42) ≤ R.locals) (hRcells : cells + 1 ≤ R.cells) (hRslots : slots + 6 ≤ R.slots) (hlocks : meth.locks = false)
    (hx : ∀ t : State, s.vm.Alike t.vm → H.size ≤ t.heap.size → (∀ q : Nat, q < H.size → t.heap[q]? = H[q]?) → XC cls s t)
    (hf : ∀ z ∈ locs, free z.base) (hc : cells + 1 ≤ mc) (hs : slots + 6 ≤ ms) :
    W p l e R s m args below meth c H locs cells slots (vx_MQ below Qc XC args s mc ms free) (F0 m pc ls rest) := by
  intro T hT X
  have htr : e.platform.stackTraces = false := (show e.platform.stackTraces = l.stackTraces by rw [X.admits.platform]).trans hl
  have Y := vx_rebase X (R' := { frames := R.frames, locals := R.locals, cells := 1, slots := 6 }) (Nat.le_refl _) (Nat.le_refl _) hRcells hRslots
  obtain ⟨s', hA⟩ : ∃ z, z = (T.setVm s.vm).setFrames (.invoking m args :: below) := ⟨_, rfl⟩
  rw [← hA] at Y
  have hvm : s'.vm = s.vm := by rw [hA]; rfl
  have hhp : s'.heap = H := by rw [hA]; exact hT
  have hW0 : s.WarmedH s'.vm := by rw [hvm]; exact State.WarmedH.refl s
  have hat' : ∀ w ∈ vx_at0 own ic cls names, w.before args s' = true := fun w hw => vx_ot_at hW0 hvm.symm (hgood w (List.mem_cons_of_mem _ (List.mem_cons_of_mem _ hw))) (hat w hw)
  have hk' : (Cond.classLink own ik cls).before args s' = true := vx_ot_at hW0 hvm.symm (hgood _ List.mem_cons_self) hk
  have hini' : (Cond.initialized cls).before args s' = true := vx_ot_at hW0 hvm.symm (hgood _ (List.mem_cons_of_mem _ List.mem_cons_self)) hini
  have hU' : vx_Zq Bundle.tN "UNASSIGNED_STACK" Bundle.steD A s' s'.heap := by rw [hhp]; exact vx_Zq.moved hW0.alike (hU.kept hS.2.1)
  have hN' : vx_Zq Bundle.tN "SUPPRESSED_SENTINEL" Bundle.listD A s' s'.heap := by rw [hhp]; exact vx_Zq.moved hW0.alike (hN.kept hS.2.1)
  have h : ∀ w ∈ Bundle.ownAtoms0 own ic cls names, w.before args s' = true := vx_own hat' (vx_isRefq hU'.1) (vx_isRefq hN'.1) hU'.2.word hN'.2.word
  have hown' : s'.vm.findClass own = some m.cls := by rw [hvm]; exact hown
  have hins : (Cond.instantiable cls 6).before args s' = true := h _ (by simp [Bundle.ownAtoms0])
  obtain ⟨vm₁, cX, kX, hfX, hkX, -, -, X₁, st1⟩ := Y.newCold hexec (own := own) (C := cls) (index := ik) (n := 6) hown' hk' hins hini'
    (g := F0 m pc ls rest) rfl (by rw [hb]; exact d0) (Nat.le_refl _) (Nat.le_refl _)
  generalize hT1 : (T.setVm vm₁).pushCell { cls := cX, slots := kX.instanceTypes.map defaultValue, vm := .none } = T1 at X₁ st1
  have hcat : (Value.ref T.heap.size).category = 1 := rfl
  have hcellA : T1.heap[T.heap.size]? = some (freshCell cX kX) := by rw [← hT1]; exact State.heap_pushCell_size _ _
  have d3' : decode c.code (pc + 3) = .ok (.dup, 1) := by rw [hb]; exact d3
  obtain ⟨U, hsteps, hrun, hend, hW, hsame, ce, hce, hO⟩ := X₁.ctorThrow0 hexec htr (own := own) (cls := cls) (names := names) (ic := ic) hown' hcls hnames h (fun x hx => nomatch hx) hfX hkX hcellA (by rw [hhp, hT]; exact Nat.le_refl _)
    (g := { method := m, pc := pc + 4, locals := ls, stack := .ref T.heap.size :: .ref T.heap.size :: rest, locked := none }) rfl hsize rfl rfl (rest := rest) rfl
    (by rw [hb]; exact d4) (by rw [hb]; exact d7) hout hRframes (by simp only [List.map_cons, List.sum_cons, hcat]; omega) hlocks
  obtain ⟨f1, f2⟩ := vx_frame hsame
  rw [hhp] at f1 f2
  have hWs : s.WarmedH U.vm := State.WarmedH.trans hW0 hW
  have hcl : s.vm.findClass cls = some ce.cls := by
    have h9 := hO.cls
    rw [hvm] at h9
    exact h9
  have hall : s.sameButNew ({ U with vm := s.vm } : State) locs mc ms := by
    subst hA
    obtain ⟨e1, e2⟩ := hsame
    rw [State.setFrames_setFrames] at e1
    have h2 : (T.setVm s.vm).sameButNew ({ U with vm := s.vm } : State) [] (0 + 1) (0 + 6) := ⟨e1, e2⟩
    have h3 := X.same.trans h2
    rw [List.append_nil] at h3
    exact h3.mono hc hs
  refine ⟨U, ?_, .threw T.heap.size, hrun, hend, Or.inr ⟨T.heap.size, rfl, cls, ce, locs, hx U hWs.alike f1 (fun q hq => f2 q hq (fun z hz => nomatch hz)), hce, hO.vm, hcl, hWs, hall, hf⟩⟩
  refine st1 _ ?_
  show Steps p.tables e below (T1.setTop { method := m, pc := pc + 3, locals := ls, stack := .ref T.heap.size :: rest, locked := none }) _
  jvm_step X₁.here [X₁.here.top, hexec, d3', Value.category]
  exact hsteps
/-- 'throw new E("text")': new; dup; ldc; invokespecial; athrow -/
theorem vx_throwS {cc : ByteArray} {pc : Nat} (hexec : p.tables.exec = Jvm.exec) (hb : c.code = cc) (hl : l.stackTraces = false) {own cls text : String} {names : List String} {ik is ic mc ms sa : Nat} {A : Nat → Prop}
    (hown : s.vm.findClass own = some m.cls) (hcls : Bundle.fit cls = true) (hnames : ∀ n ∈ names, Bundle.fit n = true)
    (hk : (Cond.classLink own ik cls).before args s = true) (hini : (Cond.initialized cls).before args s = true) (hstr : vk_R own is text sa s) (hat : ∀ w ∈ vx_atS own ic cls names, w.before args s = true)
    (hgood : ∀ w ∈ Cond.classLink own ik cls :: Cond.initialized cls :: vx_atS own ic cls names, vx_ot w = true)
    (hU : vx_Zq Bundle.tN "UNASSIGNED_STACK" Bundle.steD A s s.heap) (hN : vx_Zq Bundle.tN "SUPPRESSED_SENTINEL" Bundle.listD A s s.heap) (hS : va_S A s.heap H locs) (hsize : ls.size = c.maxLocals)
    (d0 : decode cc pc = .ok (.new ik, 3)) (d3 : decode cc (pc + 3) = .ok (.dup, 1)) (d4 : decode cc (pc + 4) = .ok (.ldc is, 2)) (d6 : decode cc (pc + 6) = .ok (.invokespecial ic, 3)) (d9 : decode cc (pc + 9) = .ok (.athrow, 1))
    (hout : ∀ x ∈ c.exceptionTable.toList, covers x (pc + 9) = false)
    (hRframes : names.length + 3 < R.frames) (hRlocals : (rest.map fun v => v.category).sum + (13 * (names.length + 1) + 43) ≤ R.locals) (hRcells : cells + 1 ≤ R.cells) (hRslots : slots + 6 ≤ R.slots) (hlocks : meth.locks = false)
    (hx : ∀ t : State, s.vm.Alike t.vm → H.size ≤ t.heap.size → (∀ q : Nat, q < H.size → t.heap[q]? = H[q]?) → XC cls s t)
    (hf : ∀ z ∈ locs, free z.base) (hc : cells + 1 ≤ mc) (hs : slots + 6 ≤ ms) :
    W p l e R s m args below meth c H locs cells slots (vx_MQ below Qc XC args s mc ms free) (F0 m pc ls rest) := by
  intro T hT X
  have htr : e.platform.stackTraces = false := (show e.platform.stackTraces = l.stackTraces by rw [X.admits.platform]).trans hl
  have Y := vx_rebase X (R' := { frames := R.frames, locals := R.locals, cells := 1, slots := 6 }) (Nat.le_refl _) (Nat.le_refl _) hRcells hRslots
  obtain ⟨s', hA⟩ : ∃ z, z = (T.setVm s.vm).setFrames (.invoking m args :: below) := ⟨_, rfl⟩
  rw [← hA] at Y
  have hvm : s'.vm = s.vm := by rw [hA]; rfl
  have hhp : s'.heap = H := by rw [hA]; exact hT
  have hW0 : s.WarmedH s'.vm := by rw [hvm]; exact State.WarmedH.refl s
  have hat' : ∀ w ∈ vx_atS own ic cls names, w.before args s' = true := fun w hw => vx_ot_at hW0 hvm.symm (hgood w (List.mem_cons_of_mem _ (List.mem_cons_of_mem _ hw))) (hat w hw)
  have hk' : (Cond.classLink own ik cls).before args s' = true := vx_ot_at hW0 hvm.symm (hgood _ List.mem_cons_self) hk
  have hini' : (Cond.initialized cls).before args s' = true := vx_ot_at hW0 hvm.symm (hgood _ (List.mem_cons_of_mem _ List.mem_cons_self)) hini
  have hU' : vx_Zq Bundle.tN "UNASSIGNED_STACK" Bundle.steD A s' s'.heap := by rw [hhp]; exact vx_Zq.moved hW0.alike (hU.kept hS.2.1)
  have hN' : vx_Zq Bundle.tN "SUPPRESSED_SENTINEL" Bundle.listD A s' s'.heap := by rw [hhp]; exact vx_Zq.moved hW0.alike (hN.kept hS.2.1)
  have h : ∀ w ∈ Bundle.ownAtoms own ic cls names, w.before args s' = true := vx_own hat' (vx_isRefq hU'.1) (vx_isRefq hN'.1) hU'.2.word hN'.2.word
  have hown' : s'.vm.findClass own = some m.cls := by rw [hvm]; exact hown
  have hins : (Cond.instantiable cls 6).before args s' = true := h _ (by simp [Bundle.ownAtoms])
  obtain ⟨vm₁, cX, kX, hfX, hkX, -, -, X₁, st1⟩ := Y.newCold hexec (own := own) (C := cls) (index := ik) (n := 6) hown' hk' hins hini'
    (g := F0 m pc ls rest) rfl (by rw [hb]; exact d0) (Nat.le_refl _) (Nat.le_refl _)
  generalize hT1 : (T.setVm vm₁).pushCell { cls := cX, slots := kX.instanceTypes.map defaultValue, vm := .none } = T1 at X₁ st1
  have hcat : (Value.ref T.heap.size).category = 1 := rfl
  have hcellA : T1.heap[T.heap.size]? = some (freshCell cX kX) := by rw [← hT1]; exact State.heap_pushCell_size _ _
  have d3' : decode c.code (pc + 3) = .ok (.dup, 1) := by rw [hb]; exact d3
  have d4' : decode c.code (pc + 4) = .ok (.ldc is, 2) := by rw [hb]; exact d4
  have hstr' : vk_R own is text sa s' := vk_R.warm hW0 hstr
  obtain ⟨U, hsteps, hrun, hend, hW, hsame, ce, hce, hO⟩ := X₁.ctorThrowS hexec htr (own := own) (cls := cls) (names := names) (ic := ic) hown' hcls hnames h (fun x hx => nomatch hx) hfX hkX hcellA (by rw [hhp, hT]; exact Nat.le_refl _) (msg := .ref sa) rfl
    (g := { method := m, pc := pc + 6, locals := ls, stack := .ref sa :: .ref T.heap.size :: .ref T.heap.size :: rest, locked := none }) rfl hsize rfl rfl (rest := rest) rfl
    (by rw [hb]; exact d6) (by rw [hb]; exact d9) hout hRframes (by simp only [List.map_cons, List.sum_cons, hcat]; omega) hlocks
  obtain ⟨f1, f2⟩ := vx_frame hsame
  rw [hhp] at f1 f2
  have hWs : s.WarmedH U.vm := State.WarmedH.trans hW0 hW
  have hcl : s.vm.findClass cls = some ce.cls := by
    have h9 := hO.cls
    rw [hvm] at h9
    exact h9
  have hall : s.sameButNew ({ U with vm := s.vm } : State) locs mc ms := by
    subst hA
    obtain ⟨e1, e2⟩ := hsame
    rw [State.setFrames_setFrames] at e1
    have h2 : (T.setVm s.vm).sameButNew ({ U with vm := s.vm } : State) [] (0 + 1) (0 + 6) := ⟨e1, e2⟩
    have h3 := X.same.trans h2
    rw [List.append_nil] at h3
    exact h3.mono hc hs
  refine ⟨U, ?_, .threw T.heap.size, hrun, hend, Or.inr ⟨T.heap.size, rfl, cls, ce, locs, hx U hWs.alike f1 (fun q hq => f2 q hq (fun z hz => nomatch hz)), hce, hO.vm, hcl, hWs, hall, hf⟩⟩
  refine st1 _ ?_
  show Steps p.tables e below (T1.setTop { method := m, pc := pc + 3, locals := ls, stack := .ref T.heap.size :: rest, locked := none }) _
  jvm_step X₁.here [X₁.here.top, hexec, d3', Value.category]
  exact X₁.ldcString hexec (own := own) (text := text) (index := is) (a := sa) hown' hstr'.1 hstr'.2
    (g := { method := m, pc := pc + 4, locals := ls, stack := .ref T.heap.size :: .ref T.heap.size :: rest, locked := none }) rfl d4' _ hsteps
/-- 'throw new E("text")', the text by a wide index -/
theorem vx_throwSW {cc : ByteArray} {pc : Nat} (hexec : p.tables.exec = Jvm.exec) (hb : c.code = cc) (hl : l.stackTraces = false) {own cls text : String} {names : List String} {ik is ic mc ms sa : Nat} {A : Nat → Prop}
    (hown : s.vm.findClass own = some m.cls) (hcls : Bundle.fit cls = true) (hnames : ∀ n ∈ names, Bundle.fit n = true)
    (hk : (Cond.classLink own ik cls).before args s = true) (hini : (Cond.initialized cls).before args s = true) (hstr : vk_R own is text sa s) (hat : ∀ w ∈ vx_atS own ic cls names, w.before args s = true)
    (hgood : ∀ w ∈ Cond.classLink own ik cls :: Cond.initialized cls :: vx_atS own ic cls names, vx_ot w = true)
    (hU : vx_Zq Bundle.tN "UNASSIGNED_STACK" Bundle.steD A s s.heap) (hN : vx_Zq Bundle.tN "SUPPRESSED_SENTINEL" Bundle.listD A s s.heap) (hS : va_S A s.heap H locs) (hsize : ls.size = c.maxLocals)
    (d0 : decode cc pc = .ok (.new ik, 3)) (d3 : decode cc (pc + 3) = .ok (.dup, 1)) (d4 : decode cc (pc + 4) = .ok (.ldc_w is, 3)) (d7 : decode cc (pc + 7) = .ok (.invokespecial ic, 3)) (d10 : decode cc (pc + 10) = .ok (.athrow, 1))
    (hout : ∀ x ∈ c.exceptionTable.toList, covers x (pc + 10) = false)
    (hRframes : names.length + 3 < R.frames) (hRlocals : (rest.map fun v => v.category).sum + (13 * (names.length + 1) + 43) ≤ R.locals) (hRcells : cells + 1 ≤ R.cells) (hRslots : slots + 6 ≤ R.slots) (hlocks : meth.locks = false)
    (hx : ∀ t : State, s.vm.Alike t.vm → H.size ≤ t.heap.size → (∀ q : Nat, q < H.size → t.heap[q]? = H[q]?) → XC cls s t)
    (hf : ∀ z ∈ locs, free z.base) (hc : cells + 1 ≤ mc) (hs : slots + 6 ≤ ms) :
    W p l e R s m args below meth c H locs cells slots (vx_MQ below Qc XC args s mc ms free) (F0 m pc ls rest) := by
  intro T hT X
  have htr : e.platform.stackTraces = false := (show e.platform.stackTraces = l.stackTraces by rw [X.admits.platform]).trans hl
  have Y := vx_rebase X (R' := { frames := R.frames, locals := R.locals, cells := 1, slots := 6 }) (Nat.le_refl _) (Nat.le_refl _) hRcells hRslots
  obtain ⟨s', hA⟩ : ∃ z, z = (T.setVm s.vm).setFrames (.invoking m args :: below) := ⟨_, rfl⟩
  rw [← hA] at Y
  have hvm : s'.vm = s.vm := by rw [hA]; rfl
  have hhp : s'.heap = H := by rw [hA]; exact hT
  have hW0 : s.WarmedH s'.vm := by rw [hvm]; exact State.WarmedH.refl s
  have hat' : ∀ w ∈ vx_atS own ic cls names, w.before args s' = true := fun w hw => vx_ot_at hW0 hvm.symm (hgood w (List.mem_cons_of_mem _ (List.mem_cons_of_mem _ hw))) (hat w hw)
  have hk' : (Cond.classLink own ik cls).before args s' = true := vx_ot_at hW0 hvm.symm (hgood _ List.mem_cons_self) hk
  have hini' : (Cond.initialized cls).before args s' = true := vx_ot_at hW0 hvm.symm (hgood _ (List.mem_cons_of_mem _ List.mem_cons_self)) hini
  have hU' : vx_Zq Bundle.tN "UNASSIGNED_STACK" Bundle.steD A s' s'.heap := by rw [hhp]; exact vx_Zq.moved hW0.alike (hU.kept hS.2.1)
  have hN' : vx_Zq Bundle.tN "SUPPRESSED_SENTINEL" Bundle.listD A s' s'.heap := by rw [hhp]; exact vx_Zq.moved hW0.alike (hN.kept hS.2.1)
  have h : ∀ w ∈ Bundle.ownAtoms own ic cls names, w.before args s' = true := vx_own hat' (vx_isRefq hU'.1) (vx_isRefq hN'.1) hU'.2.word hN'.2.word
  have hown' : s'.vm.findClass own = some m.cls := by rw [hvm]; exact hown
  have hins : (Cond.instantiable cls 6).before args s' = true := h _ (by simp [Bundle.ownAtoms])
  obtain ⟨vm₁, cX, kX, hfX, hkX, -, -, X₁, st1⟩ := Y.newCold hexec (own := own) (C := cls) (index := ik) (n := 6) hown' hk' hins hini'
    (g := F0 m pc ls rest) rfl (by rw [hb]; exact d0) (Nat.le_refl _) (Nat.le_refl _)
  generalize hT1 : (T.setVm vm₁).pushCell { cls := cX, slots := kX.instanceTypes.map defaultValue, vm := .none } = T1 at X₁ st1
  have hcat : (Value.ref T.heap.size).category = 1 := rfl
  have hcellA : T1.heap[T.heap.size]? = some (freshCell cX kX) := by rw [← hT1]; exact State.heap_pushCell_size _ _
  have d3' : decode c.code (pc + 3) = .ok (.dup, 1) := by rw [hb]; exact d3
  have d4' : decode c.code (pc + 4) = .ok (.ldc_w is, 3) := by rw [hb]; exact d4
  have hstr' : vk_R own is text sa s' := vk_R.warm hW0 hstr
  obtain ⟨U, hsteps, hrun, hend, hW, hsame, ce, hce, hO⟩ := X₁.ctorThrowS hexec htr (own := own) (cls := cls) (names := names) (ic := ic) hown' hcls hnames h (fun x hx => nomatch hx) hfX hkX hcellA (by rw [hhp, hT]; exact Nat.le_refl _) (msg := .ref sa) rfl
    (g := { method := m, pc := pc + 7, locals := ls, stack := .ref sa :: .ref T.heap.size :: .ref T.heap.size :: rest, locked := none }) rfl hsize rfl rfl (rest := rest) rfl
    (by rw [hb]; exact d7) (by rw [hb]; exact d10) hout hRframes (by simp only [List.map_cons, List.sum_cons, hcat]; omega) hlocks
  obtain ⟨f1, f2⟩ := vx_frame hsame
  rw [hhp] at f1 f2
  have hWs : s.WarmedH U.vm := State.WarmedH.trans hW0 hW
  have hcl : s.vm.findClass cls = some ce.cls := by
    have h9 := hO.cls
    rw [hvm] at h9
    exact h9
  have hall : s.sameButNew ({ U with vm := s.vm } : State) locs mc ms := by
    subst hA
    obtain ⟨e1, e2⟩ := hsame
    rw [State.setFrames_setFrames] at e1
    have h2 : (T.setVm s.vm).sameButNew ({ U with vm := s.vm } : State) [] (0 + 1) (0 + 6) := ⟨e1, e2⟩
    have h3 := X.same.trans h2
    rw [List.append_nil] at h3
    exact h3.mono hc hs
  refine ⟨U, ?_, .threw T.heap.size, hrun, hend, Or.inr ⟨T.heap.size, rfl, cls, ce, locs, hx U hWs.alike f1 (fun q hq => f2 q hq (fun z hz => nomatch hz)), hce, hO.vm, hcl, hWs, hall, hf⟩⟩
  refine st1 _ ?_
  show Steps p.tables e below (T1.setTop { method := m, pc := pc + 3, locals := ls, stack := .ref T.heap.size :: rest, locked := none }) _
  jvm_step X₁.here [X₁.here.top, hexec, d3', Value.category]
  exact X₁.ldcStringW hexec (own := own) (text := text) (index := is) (a := sa) hown' hstr'.1 hstr'.2
    (g := { method := m, pc := pc + 4, locals := ls, stack := .ref T.heap.size :: .ref T.heap.size :: rest, locked := none }) rfl d4' _ hsteps
end Ends
section Bodies
variable {l : Launch}
theorem vx_ofW {y : MethodName} {ws ws' : List Cond} {rm : Room} {Pc : Array Value → State → Prop} {Qc : Array Value → State → Outcome → State → Prop} {XC : String → State → State → Prop} {mc ms : Nat} {free : Addr → Prop} {cc : ByteArray} {maxL : Nat} {ret : Option FieldType}
    (hy : plainName y.cls = true) (hw : ws = Cond.code y cc maxL ret :: ws')
    (body : ∀ p e s m args below meth c s₁, BodyLoose p l y (headSpec ws rm) cc maxL ret e s m args below meth c s₁ → c.maxLocals = maxL → (∀ x ∈ c.exceptionTable.toList, False) → Pc args s →
      W p l e (headSpec ws rm).room s m args below meth c s.heap [] 0 0 (vx_MQ below Qc XC args s mc ms free) (entryFrame m args maxL)) : vx_Met l y ws rm Pc Qc XC mc ms free := by
  refine MetFree.of_bodyS (code := cc) (maxLocals := maxL) (ret := ret) hy ?_ ?_
  · intro args s m h hn
    obtain ⟨meth, c, h1, h2, h3, h4, h5, h6, -, -⟩ := Cond.code_spec hn (atoms_spec (ws := ws) h _ (by rw [hw]; exact List.mem_cons_self))
    exact ⟨meth, c, h1, h2, h3, h4, h5, h6⟩
  · intro p e s m args below meth c s₁ B hml hP _
    have hh0 : s₁.heap = s.heap := by rw [B.state]; rfl
    have ht : ∀ x ∈ c.exceptionTable.toList, False := by
      obtain ⟨meth9, c9, h1, h2, -, -, -, -, h7, -⟩ := Cond.code_spec B.named (atoms_spec (ws := ws) B.pre _ (by rw [hw]; exact List.mem_cons_self))
      cases Option.some.inj (h1.symm.trans B.method)
      cases Option.some.inj (h2.symm.trans (Stand.of_body B).code)
      intro x hx
      rw [Array.isEmpty_iff.mp h7] at hx
      cases hx
    obtain ⟨t, a1, o, b1, b2, b3⟩ := body p e s m args below meth c s₁ B hml ht hP s₁ hh0 (Stand.of_body B)
    exact ⟨t, o, a1, b1, b2, b3⟩
/-- the table of a body with handlers -/
theorem vx_table {p : Program} {x y : MethodName} {S : Spec} {cc bytes : ByteArray} {maxL maxL' : Nat} {ret ret' : Option FieldType} {e : Env} {s s₁ : State} {m : MethodId} {args : Array Value} {below : List Frame} {meth : Method} {c : Code} {hh : List (Nat × Nat × Nat × Nat)}
    (B : BodyLoose p l y S cc maxL ret e s m args below meth c s₁) (h : (Cond.codeWith y bytes maxL' ret' hh).before args s = true) : c.exceptionTable.toList = tableOf hh := by
  obtain ⟨m9, meth9, c9, hn9, h1, h2, -, -, h6, -⟩ := Cond.codeWith_spec h
  cases Option.some.inj (hn9.symm.trans B.named)
  cases Option.some.inj (h1.symm.trans B.method)
  cases Option.some.inj (h2.symm.trans (Stand.of_body B).code)
  rw [← h6, table_eq]
end Bodies
end VXA
/-! ===== END ===== -/
/-! ===== BEGIN a static call of a method with an exception table ===== -/
section VXS
variable {p : Program} {l : Launch} {e : Env} {R : Room} {s : State} {m : MethodId} {args : Array Value} {below : List Frame} {meth : Method} {c : Code} {T : State} {H : Heap} {locs : List Loc} {cells slots : Nat}
abbrev vx_CSW (R : Room) (s : State) (args : Array Value) (own : String) (index : Nat) (y : MethodName) (bytes : ByteArray) (maxL : Nat) (ret : Option FieldType) (hh : List (Nat × Nat × Nat × Nat)) (ws : List Cond) (rm : Room) (mc ms n : Nat) : Prop :=
  (rm.cells = mc ∧ rm.slots = ms ∧ rm.frames + 1 ≤ R.frames ∧ 8 + (maxL + 11) + rm.locals ≤ R.locals ∧ (∀ w ∈ ws, ∀ (a' : Array Value) (U : State), s.WarmedH U.vm → w.before a' U = true) ∧ Cond.codeWith y bytes maxL ret hh ∈ ws) ∧
  (Cond.codeWith y bytes maxL ret hh).before args s = true ∧ (Cond.initialized y.cls).before args s = true ∧ (y.cls ≠ "java/lang/invoke/MethodHandle" ∧ y.cls ≠ "java/lang/invoke/VarHandle") ∧
  (∀ sig, parseMethodDescriptor y.desc = some sig → n = sig.parameters.length) ∧ (Cond.methodLink own index y).before args s = true ∧ (Cond.static y).before args s = true
theorem vx_cwSW {own : String} {index maxL mc ms : Nat} {y : MethodName} {bytes : ByteArray} {ret : Option FieldType} {hh : List (Nat × Nat × Nat × Nat)} {Ts ws ws' : List Cond} {rm : Room} (n : Nat) (ht : ∀ w ∈ Ts, w.before args s = true) (hT : GoodIn Ts (va_wsS own index y ws)) (hw : ws = Cond.codeWith y bytes maxL ret hh :: ws') (hrc : rm.cells = mc) (hrs : rm.slots = ms)
    (hd : y.cls ≠ "java/lang/invoke/MethodHandle" ∧ y.cls ≠ "java/lang/invoke/VarHandle" ∧ (parseMethodDescriptor y.desc).map (fun d => d.parameters.length) = some n) (hR : rm.frames + 1 ≤ R.frames ∧ 8 + (maxL + 11) + rm.locals ≤ R.locals) :
    vx_CSW R s args own index y bytes maxL ret hh ws rm mc ms n := by
  have ok : ∀ w ∈ va_wsS own index y ws, w.before args s = true := fun w h => ht w (hT w h).1
  have hG : GoodIn Ts ws := fun w h => hT w (by unfold va_wsS; exact List.mem_append_right _ h)
  have hc : Cond.codeWith y bytes maxL ret hh ∈ ws := by rw [hw]; exact List.mem_cons_self
  refine ⟨⟨hrc, hrs, hR.1, hR.2, pay_in ht hG, hc⟩, ht _ (hG _ hc).1, ok _ (by simp [va_wsS]), ⟨hd.1, hd.2.1⟩, fun sig h => ?_, ok _ (by simp [va_wsS]), ok _ (by simp [va_wsS])⟩
  have h2 := hd.2.2
  rw [h] at h2
  exact (Option.some.inj h2).symm
theorem vx_callSW (X : Stand p l e R s m args below meth c T locs cells slots) (hexec : p.tables.exec = Jvm.exec) {own : String} {index : Nat} {y : MethodName} {bytes : ByteArray} {maxL : Nat} {ret : Option FieldType} {hh : List (Nat × Nat × Nat × Nat)}
    (hown : s.vm.findClass own = some m.cls) (hlink : (Cond.methodLink own index y).before args s = true) (hstat : (Cond.static y).before args s = true) (hinit : (Cond.initialized y.cls).before args s = true)
    (hcode : (Cond.codeWith y bytes maxL ret hh).before args s = true) (hy : y.cls ≠ "java/lang/invoke/MethodHandle" ∧ y.cls ≠ "java/lang/invoke/VarHandle")
    {W9 : Nat} {Pre : Pt → Array Value → Prop} {Post : Pt → Array Value → Option Value → Pt → Prop} (hK : Back l R p e below s args y 3 W9 Pre Post)
    {g : JFrame} (hg : g.method = m) (hsize : g.locals.size = c.maxLocals) {argsL rest : List Value} (hlen : ∀ sig, parseMethodDescriptor y.desc = some sig → argsL.length = sig.parameters.length)
    (hstack : g.stack = argsL.reverse ++ rest) (hW : 2 * g.monitorRoom + (rest.map fun v => v.category).sum ≤ W9) (hdg : decode c.code g.pc = .ok (.invokestatic index, 3))
    (hpre : ∀ vm₁, s.WarmedH vm₁ → Pre ⟨T.setVm vm₁, locs, cells, slots⟩ argsL.toArray) :
    ∃ (v : Option Value) (vm₁ : Vm) (B : Pt), s.WarmedH vm₁ ∧ Stand p l e R s m args below meth c B.U B.locs B.cells B.slots ∧ Post ⟨T.setVm vm₁, locs, cells, slots⟩ argsL.toArray v B ∧
      ∀ target, Steps p.tables e below (B.U.setTop { g with pc := g.pc + 3, stack := v.toList ++ rest }) target → Steps p.tables e below (T.setTop g) target := by
  obtain ⟨mk, methM, cM, hnamed, hmethM, -, -, -, -, -, -, hsigM⟩ := Cond.codeWith_spec hcode
  have hstatic : methM.isStatic = true := Cond.static_spec hnamed hmethM hstat
  obtain ⟨kP, hkP, -⟩ := className_of_methodNamed hnamed
  have hinitP : kP.init = .initialized := Cond.initialized_spec (findClass_of_methodNamed hnamed) hkP hinit
  obtain ⟨vm₁, X₁, hstep₁⟩ := X.invokestatic hexec hown hlink hnamed hmethM hstatic hkP hinitP hy (g := g) hg (argsL := argsL) (rest := rest) (hlen _ hsigM) hstack hdg
  obtain ⟨v, B, X', hpost, hsteps⟩ := hK m meth c ⟨T.setVm vm₁, locs, cells, slots⟩ { g with stack := rest } (.invokestatic index) mk argsL.toArray X₁ hg hsize hdg hW (X₁.named hnamed) (hpre vm₁ X₁.warmed)
  exact ⟨v, vm₁, B, X₁.warmed, X', hpost, fun target h => hstep₁ _ fun acts => by rw [doInvoke_state]; exact hsteps.trans h⟩
theorem vx_runSW {y : MethodName} {bytes cc : ByteArray} {maxL nL mc ms n index : Nat} {ret : Option FieldType} {hh : List (Nat × Nat × Nat × Nat)} {ws : List Cond} {rm : Room} {Pc : Array Value → State → Prop} {Qc : Array Value → State → Outcome → State → Prop} {free : Addr → Prop} {Ts : List Cond} {own : String} {As rest : List Value} {g : JFrame}
    (S : CallFix p m c cc nL s args Ts own) (hM : Met l y ws rm Pc Qc mc ms free) (cw : vx_CSW R s args own index y bytes maxL ret hh ws rm mc ms n) (hp : PreS s H Pc As)
    (hg : g.method = m) (hn : As.length = n) (hsize : g.locals.size = nL) (hstack : g.stack = As.reverse ++ rest) (hW : 2 * g.monitorRoom + (rest.map fun v => v.category).sum ≤ 8) (hdg : decode cc g.pc = .ok (.invokestatic index, 3)) (hf : cells + mc ≤ R.cells ∧ slots + ms ≤ R.slots) :
    va_Run p l e R s m args below meth c H locs cells slots mc ms g rest (Qc As.toArray) (free) := by
  obtain ⟨⟨hrc, hrs, hfr, hlo, hws, hcw⟩, hcode, hini, hy, hlen, hl, hstt⟩ := cw
  have hK : Back l R p e below s args y 3 8 (PreOf R mc ms Pc) (PostOf Qc mc ms free) := va_backW (hh := hh) (bytes := bytes) (maxL := maxL) (ret := ret) hM hp.1 hrc hrs hfr hlo hws hcw (fun a' U hW => word_at hW (Or.inl (by first | rfl | simp [Cond.onTables, Cond.keeps, Cond.steady])) hini)
  obtain ⟨hx, hb, hml, ho, -⟩ := S
  intro T hT X
  obtain ⟨v, vm₁, ⟨U', l2, c2, s2⟩, hW₁, X', ⟨g', mk, t, L, e1, e2, hq, h1, hL, h2, h3⟩, st⟩ := vx_callSW X hx (hh := hh) (bytes := bytes) (maxL := maxL) (ret := ret) ho hl hstt hini hcode hy hK hg (hsize.trans hml.symm) (argsL := As) (rest := rest) (fun sig h => hn.trans (hlen sig h)) hstack hW (by rw [hb]; exact hdg)
    (fun vm₁ hW₁ => ⟨hf.1, hf.2, hp.2 (T.setVm vm₁) hT hW₁⟩)
  dsimp only [Pt.U, Pt.locs, Pt.cells, Pt.slots] at X' e1 e2 h1 h2 h3 st
  subst h1; subst h2; subst h3
  exact ⟨v, (T.setVm vm₁).calling g' mk As.toArray, t, U', L, hT, X', hL, e1, e2, hq, st⟩
/-- a thing of a world lies in the heap -/
theorem vx_lt {D : va_G} {cl : List vw_C} {ws : va_W} {H1 : Heap} (h : va_P D cl ws H1) {k : Nat} {q : Nat × va_E} (hk : ws[k]? = some q) : q.1 < H1.size := (h k q hk).lt
end VXS
/-! ===== END ===== -/
/-! ===== BEGIN methods with a table of their own: called by a name, returning or throwing ===== -/
section VXH
/-! vx_backW, vx_callVX, vx_callSX, vx_callVW, vx_runVW, vx_runVX, vx_runSX, vx_ofWH follow the same proofs as their sisters above (Free/Laws.lean, Shelf42/LK1.lean); vx_outP calls Shelf42/NT130.lean (outThrough). -/
section
variable {l : Launch} {R : Room} {p : Program} {e : Env} {below : List Frame} {s : State} {sargs : Array Value} {y : MethodName} {len W9 : Nat}
theorem vx_backW {ws : List Cond} {rm : Room} {Pc : Array Value → State → Prop} {Qc : Array Value → State → Outcome → State → Prop} {XC : String → State → State → Prop} {mc ms : Nat} {free : Addr → Prop} {bytes : ByteArray} {maxL : Nat} {ret : Option FieldType} {hh : List (Nat × Nat × Nat × Nat)}
    (hM : vx_Met l y ws rm Pc Qc XC mc ms free) (hblind : FrameBlind Pc) (hrc : rm.cells = mc) (hrs : rm.slots = ms)
    (hframes : rm.frames + 1 ≤ R.frames) (hlocals : W9 + (maxL + 11) + rm.locals ≤ R.locals)
    (hws : ∀ w ∈ ws, ∀ a' U, s.WarmedH U.vm → w.before a' U = true) (hcode : Cond.codeWith y bytes maxL ret hh ∈ ws) (hinit : ∀ a' U, s.WarmedH U.vm → (Cond.initialized y.cls).before a' U = true) :
    vx_Back l R p e below s sargs y len W9 (PreOf R mc ms Pc) (PostOf Qc mc ms free) (vx_Post XC mc ms free) := by
  intro m meth c A g ig mk a X hg hsize hdg hW hn hp
  have h1 : (headSpec ws rm).pre.before a A.U = true := atoms_intro fun w hw => hws w hw _ _ X.warmed
  have h2 : (Cond.codeWith y bytes maxL ret hh).before a A.U = true := hws _ hcode _ _ X.warmed
  have h3 : (Cond.initialized y.cls).before a A.U = true := hinit _ _ X.warmed
  have h4 : A.cells + (headSpec ws rm).room.cells ≤ R.cells := by rw [show (headSpec ws rm).room.cells = mc from hrc]; exact hp.1
  have h5 : A.slots + (headSpec ws rm).room.slots ≤ R.slots := by rw [show (headSpec ws rm).room.slots = ms from hrs]; exact hp.2.1
  have hPc : Pc a (A.U.calling g mk a) := hblind _ _ _ _ hp.2.2
  obtain ⟨U, Ls, c0, s0⟩ := A
  dsimp only [Pt.U, Pt.locs, Pt.cells, Pt.slots] at h1 h2 h3 h4 h5 X hn hPc ⊢
  obtain ⟨m9, methY, cY, hn9, hmY, hcY, -, hlY, -⟩ := Cond.codeWith_spec h2
  cases Option.some.inj (hn9.symm.trans hn)
  obtain ⟨kY, hkY, -⟩ := className_of_methodNamed hn
  have hinitY : kY.init = .initialized := Cond.initialized_spec (findClass_of_methodNamed hn) hkY h3
  have h : At U g.method c below := by rw [hg]; exact X.here
  have hlocals9 : W9 + (maxL + 11) + (headSpec ws rm).room.locals ≤ R.locals := hlocals
  have happ : (headSpec ws rm).appliesLoose y e.platform (U.calling g mk a) = true :=
    Spec.appliesLoose_calling (g := g) h hdg hn hkY hinitY
      (X.room_calling (g := g) (R' := (headSpec ws rm).room) hsize hmY hcY hframes (by rw [hlY]; omega) h4 h5) h1
  obtain ⟨mid, hmid⟩ := h.above
  have hfr : (U.setTop g).frames = (.java g :: mid) ++ below := by rw [State.frames_setTop' g h.top, hmid]; rfl
  obtain ⟨o, s₂, hsteps, -, hend, hq⟩ := Steps.callFree hM p X.admits X.cas X.clock (acts := []) hfr happ hPc trivial
  have hq' : vx_Q Qc XC mc ms free a (U.calling g mk a) o s₂ := hq
  rw [State.frames_setTop' g h.top] at hend
  obtain ⟨g₀, hg0⟩ := Option.isSome_iff_exists.mp h.top
  obtain ⟨r, hr⟩ := State.topJava?_eq_some.mp hg0
  have hr' : (({ U with heap := s₂.heap, slotsUsed := s₂.slotsUsed } : State).setVm s₂.vm).frames = .java g₀ :: r := hr
  rcases hq' with ⟨hqc, L, hfe, hL⟩ | ⟨q, rfl, E, ce, L, hx, hce, hcv, hcl, hW₂, hsm, hL⟩
  · obtain ⟨⟨v, rfl⟩, hW₂, e2, q2, q3, q4, q5, q6⟩ := id hfe
    have e3 : s₂ = ({ (U.calling g mk a).setFrames s₂.frames with heap := s₂.heap, slotsUsed := s₂.slotsUsed } : State).setVm s₂.vm := by
      have : s₂ = ({ s₂ with vm := (U.calling g mk a).vm } : State).setVm s₂.vm := rfl
      rw [e2] at this
      exact this
    obtain ⟨c₂, i₂, len₂, hc₂, hd₂, hf₂⟩ := hend
    have hW' : U.WarmedH s₂.vm := hW₂
    have hcc : c₂ = c := by
      have h1 : s₂.code? g.method = U.code? g.method := by
        rw [State.code?_eq, State.code?_eq, hW'.alike.method?]
      exact Option.some.inj (hc₂.symm.trans (h1.trans h.code))
    subst hcc
    have hlen : len₂ = len := by rw [hdg] at hd₂; cases hd₂; rfl
    subst hlen
    have hs₂ : s₂ = (({ U with heap := s₂.heap, slotsUsed := s₂.slotsUsed } : State).setVm s₂.vm).setTop { g with pc := g.pc + len₂, stack := v.toList ++ g.stack } := by
      refine e3.trans ?_
      rw [hf₂, State.calling_eq h.top, State.setFrames_setFrames, State.setTop_of_frames _ hr', hr]
      rfl
    have hsame : U.sameButNew ({ U with heap := s₂.heap, slotsUsed := s₂.slotsUsed } : State) L mc ms := by
      refine ⟨?_, q2, q3, q4, q5, q6⟩
      obtain ⟨t, ht, -⟩ := State.frames_cons hr
      show ({ U with heap := s₂.heap, slotsUsed := s₂.slotsUsed } : State) = { U.setFrames U.frames with heap := s₂.heap, slotsUsed := s₂.slotsUsed }
      rw [State.setFrames_self ht]
    subst hg
    refine Or.inl ⟨v, ⟨(({ U with heap := s₂.heap, slotsUsed := s₂.slotsUsed } : State).setVm s₂.vm), Ls ++ L, c0 + mc, s0 + ms⟩,
      ⟨X.admits, X.cas, X.clock, X.frames, X.room, X.hears, X.method, X.code, (X.here.setHeapUsed s₂.heap s₂.slotsUsed).setVm hW'.alike, X.tail, State.WarmedH.trans X.warmed hW', X.limits, X.bytes, X.same.trans (hsame.setVm s.vm)⟩,
      ⟨g, mk, s₂, L, rfl, rfl, hqc, rfl, hL, rfl, rfl⟩, ?_⟩
    show Steps p.tables e below _ ((({ U with heap := s₂.heap, slotsUsed := s₂.slotsUsed } : State).setVm s₂.vm).setTop { g with pc := g.pc + len₂, stack := v.toList ++ g.stack })
    rw [← hs₂]
    exact hsteps
  · obtain ⟨e2, q2, q3, q4, q5, q6⟩ := id hsm
    have e3 : s₂ = ({ (U.calling g mk a).setFrames s₂.frames with heap := s₂.heap, slotsUsed := s₂.slotsUsed } : State).setVm s₂.vm := by
      have : s₂ = ({ s₂ with vm := (U.calling g mk a).vm } : State).setVm s₂.vm := rfl
      rw [e2] at this
      exact this
    have hf₂ : s₂.frames = .throwing q :: .java g :: U.frames.tail := hend
    have hW' : U.WarmedH s₂.vm := hW₂
    have hs₂ : s₂ = ((({ U with heap := s₂.heap, slotsUsed := s₂.slotsUsed } : State).setVm s₂.vm).setTop g).pushFrame (.throwing q) := by
      refine e3.trans ?_
      rw [hf₂, State.calling_eq h.top, State.setFrames_setFrames, State.pushFrame, State.frames_setTop _ hr', State.setTop_of_frames _ hr', State.setFrames_setFrames, hr]
      rfl
    have hsame : U.sameButNew ({ U with heap := s₂.heap, slotsUsed := s₂.slotsUsed } : State) L mc ms := by
      refine ⟨?_, q2, q3, q4, q5, q6⟩
      obtain ⟨t, ht, -⟩ := State.frames_cons hr
      show ({ U with heap := s₂.heap, slotsUsed := s₂.slotsUsed } : State) = { U.setFrames U.frames with heap := s₂.heap, slotsUsed := s₂.slotsUsed }
      rw [State.setFrames_self ht]
    subst hg
    refine Or.inr ⟨q, ⟨(({ U with heap := s₂.heap, slotsUsed := s₂.slotsUsed } : State).setVm s₂.vm), Ls ++ L, c0 + mc, s0 + ms⟩,
      ⟨X.admits, X.cas, X.clock, X.frames, X.room, X.hears, X.method, X.code, (X.here.setHeapUsed s₂.heap s₂.slotsUsed).setVm hW'.alike, X.tail, State.WarmedH.trans X.warmed hW', X.limits, X.bytes, X.same.trans (hsame.setVm s.vm)⟩,
      ⟨g, mk, s₂, L, E, ce, rfl, rfl, hx, hce, hcv, hcl, rfl, hL, rfl, rfl⟩, ?_⟩
    show Steps p.tables e below _ (((({ U with heap := s₂.heap, slotsUsed := s₂.slotsUsed } : State).setVm s₂.vm).setTop g).pushFrame (.throwing q))
    rw [← hs₂]
    exact hsteps
end
variable {p : Program} {l : Launch} {e : Env} {R : Room} {s : State} {m : MethodId} {args : Array Value} {below : List Frame} {meth : Method} {c : Code} {T : State} {H : Heap} {locs : List Loc} {cells slots : Nat}
theorem vx_callVX (X : Stand p l e R s m args below meth c T locs cells slots) (hexec : p.tables.exec = Jvm.exec) {own C : String} {index : Nat} {y : MethodName} {bytes : ByteArray} {maxL : Nat} {ret : Option FieldType} {hh : List (Nat × Nat × Nat × Nat)}
    (hown : s.vm.findClass own = some m.cls) (hlink : (Cond.methodLink own index y).before args s = true) (hinst : (Cond.instanceMethod y).before args s = true) (hsel : (Cond.selects C y y).before args s = true)
    (hcode : (Cond.codeWith y bytes maxL ret hh).before args s = true) (hy : y.cls ≠ "java/lang/invoke/MethodHandle" ∧ y.cls ≠ "java/lang/invoke/VarHandle")
    {W9 : Nat} {Pre : Pt → Array Value → Prop} {Post : Pt → Array Value → Option Value → Pt → Prop} {PostX : Pt → Array Value → Addr → Pt → Prop} (hK : vx_Back l R p e below s args y 3 W9 Pre Post PostX)
    {b : Addr} {cellB : Cell} (hcell : T.heap[b]? = some cellB) (hobj : cellB.vm.isStatics = false) (hcls : s.vm.findClass C = some cellB.cls)
    {g : JFrame} (hg : g.method = m) (hsize : g.locals.size = c.maxLocals) {argsL rest : List Value} (hlen : ∀ sig, parseMethodDescriptor y.desc = some sig → argsL.length = sig.parameters.length)
    (hstack : g.stack = argsL.reverse ++ .ref b :: rest) (hW : 2 * g.monitorRoom + (rest.map fun v => v.category).sum ≤ W9) (hdg : decode c.code g.pc = .ok (.invokevirtual index, 3))
    (hpre : ∀ vm₁, s.WarmedH vm₁ → Pre ⟨T.setVm vm₁, locs, cells, slots⟩ (Value.ref b :: argsL).toArray) :
    (∃ (v : Option Value) (vm₁ : Vm) (B : Pt), s.WarmedH vm₁ ∧ Stand p l e R s m args below meth c B.U B.locs B.cells B.slots ∧ Post ⟨T.setVm vm₁, locs, cells, slots⟩ (Value.ref b :: argsL).toArray v B ∧
      ∀ target, Steps p.tables e below (B.U.setTop { g with pc := g.pc + 3, stack := v.toList ++ rest }) target → Steps p.tables e below (T.setTop g) target) ∨
    (∃ (q : Addr) (vm₁ : Vm) (B : Pt), s.WarmedH vm₁ ∧ Stand p l e R s m args below meth c B.U B.locs B.cells B.slots ∧ PostX ⟨T.setVm vm₁, locs, cells, slots⟩ (Value.ref b :: argsL).toArray q B ∧
      Steps p.tables e below (T.setTop g) ((B.U.setTop { g with stack := rest }).pushFrame (.throwing q))) := by
  obtain ⟨mk, methM, hnamed, hmethM, hstM, habM⟩ := Cond.instanceMethod_spec hinst
  obtain ⟨m8, methM', cM, hn8, hmethM', -, -, -, -, -, -, hsigM⟩ := Cond.codeWith_spec hcode
  cases Option.some.inj (hn8.symm.trans hnamed)
  cases hmethM.symm.trans hmethM'
  obtain ⟨c2, r2, m2, q1, q2, q3, q4, kP, hkP, hkPi⟩ := Cond.selects_spec hsel
  cases hcls.symm.trans q1
  cases (State.methodFound?_of_named hnamed hy).symm.trans q2
  cases hnamed.symm.trans q3
  have hselP : selectMethod e.platform s.vm cellB.cls mk = .method mk := by rw [Launch.admits_selectMethod X.admits]; exact q4
  obtain ⟨vm₁, X₁, hstep₁⟩ := X.invokevirtual hexec hown hlink hnamed hmethM hstM hkP hkPi hy (a := b) (cell := cellB) hcell
    (fun z h => by rw [h] at hobj; cases hobj) hselP hmethM habM hkP hkPi (g := g) hg (argsL := argsL) (rest := rest) (hlen _ hsigM) hstack hdg
  rcases hK m meth c ⟨T.setVm vm₁, locs, cells, slots⟩ { g with stack := rest } (.invokevirtual index) mk (Value.ref b :: argsL).toArray X₁ hg hsize hdg hW (X₁.named hnamed) (hpre vm₁ X₁.warmed) with ⟨v, B, X', hpost, hsteps⟩ | ⟨q, B, X', hpost, hsteps⟩
  · exact Or.inl ⟨v, vm₁, B, X₁.warmed, X', hpost, fun target h => hstep₁ _ fun acts => by rw [doInvoke_state]; exact hsteps.trans h⟩
  · exact Or.inr ⟨q, vm₁, B, X₁.warmed, X', hpost, hstep₁ _ fun acts => by rw [doInvoke_state]; exact hsteps⟩
theorem vx_callSX (X : Stand p l e R s m args below meth c T locs cells slots) (hexec : p.tables.exec = Jvm.exec) {own : String} {index : Nat} {y : MethodName} {bytes : ByteArray} {maxL : Nat} {ret : Option FieldType} {hh : List (Nat × Nat × Nat × Nat)}
    (hown : s.vm.findClass own = some m.cls) (hlink : (Cond.methodLink own index y).before args s = true) (hstat : (Cond.static y).before args s = true) (hinit : (Cond.initialized y.cls).before args s = true)
    (hcode : (Cond.codeWith y bytes maxL ret hh).before args s = true) (hy : y.cls ≠ "java/lang/invoke/MethodHandle" ∧ y.cls ≠ "java/lang/invoke/VarHandle")
    {W9 : Nat} {Pre : Pt → Array Value → Prop} {Post : Pt → Array Value → Option Value → Pt → Prop} {PostX : Pt → Array Value → Addr → Pt → Prop} (hK : vx_Back l R p e below s args y 3 W9 Pre Post PostX)
    {g : JFrame} (hg : g.method = m) (hsize : g.locals.size = c.maxLocals) {argsL rest : List Value} (hlen : ∀ sig, parseMethodDescriptor y.desc = some sig → argsL.length = sig.parameters.length)
    (hstack : g.stack = argsL.reverse ++ rest) (hW : 2 * g.monitorRoom + (rest.map fun v => v.category).sum ≤ W9) (hdg : decode c.code g.pc = .ok (.invokestatic index, 3))
    (hpre : ∀ vm₁, s.WarmedH vm₁ → Pre ⟨T.setVm vm₁, locs, cells, slots⟩ argsL.toArray) :
    (∃ (v : Option Value) (vm₁ : Vm) (B : Pt), s.WarmedH vm₁ ∧ Stand p l e R s m args below meth c B.U B.locs B.cells B.slots ∧ Post ⟨T.setVm vm₁, locs, cells, slots⟩ argsL.toArray v B ∧
      ∀ target, Steps p.tables e below (B.U.setTop { g with pc := g.pc + 3, stack := v.toList ++ rest }) target → Steps p.tables e below (T.setTop g) target) ∨
    (∃ (q : Addr) (vm₁ : Vm) (B : Pt), s.WarmedH vm₁ ∧ Stand p l e R s m args below meth c B.U B.locs B.cells B.slots ∧ PostX ⟨T.setVm vm₁, locs, cells, slots⟩ argsL.toArray q B ∧
      Steps p.tables e below (T.setTop g) ((B.U.setTop { g with stack := rest }).pushFrame (.throwing q))) := by
  obtain ⟨mk, methM, cM, hnamed, hmethM, -, -, -, -, -, -, hsigM⟩ := Cond.codeWith_spec hcode
  have hstatic : methM.isStatic = true := Cond.static_spec hnamed hmethM hstat
  obtain ⟨kP, hkP, -⟩ := className_of_methodNamed hnamed
  have hinitP : kP.init = .initialized := Cond.initialized_spec (findClass_of_methodNamed hnamed) hkP hinit
  obtain ⟨vm₁, X₁, hstep₁⟩ := X.invokestatic hexec hown hlink hnamed hmethM hstatic hkP hinitP hy (g := g) hg (argsL := argsL) (rest := rest) (hlen _ hsigM) hstack hdg
  rcases hK m meth c ⟨T.setVm vm₁, locs, cells, slots⟩ { g with stack := rest } (.invokestatic index) mk argsL.toArray X₁ hg hsize hdg hW (X₁.named hnamed) (hpre vm₁ X₁.warmed) with ⟨v, B, X', hpost, hsteps⟩ | ⟨q, B, X', hpost, hsteps⟩
  · exact Or.inl ⟨v, vm₁, B, X₁.warmed, X', hpost, fun target h => hstep₁ _ fun acts => by rw [doInvoke_state]; exact hsteps.trans h⟩
  · exact Or.inr ⟨q, vm₁, B, X₁.warmed, X', hpost, hstep₁ _ fun acts => by rw [doInvoke_state]; exact hsteps⟩
theorem vx_callVW (X : Stand p l e R s m args below meth c T locs cells slots) (hexec : p.tables.exec = Jvm.exec) {own C : String} {index : Nat} {y : MethodName} {bytes : ByteArray} {maxL : Nat} {ret : Option FieldType} {hh : List (Nat × Nat × Nat × Nat)}
    (hown : s.vm.findClass own = some m.cls) (hlink : (Cond.methodLink own index y).before args s = true) (hinst : (Cond.instanceMethod y).before args s = true) (hsel : (Cond.selects C y y).before args s = true)
    (hcode : (Cond.codeWith y bytes maxL ret hh).before args s = true) (hy : y.cls ≠ "java/lang/invoke/MethodHandle" ∧ y.cls ≠ "java/lang/invoke/VarHandle")
    {W9 : Nat} {Pre : Pt → Array Value → Prop} {Post : Pt → Array Value → Option Value → Pt → Prop} (hK : Back l R p e below s args y 3 W9 Pre Post)
    {b : Addr} {cellB : Cell} (hcell : T.heap[b]? = some cellB) (hobj : cellB.vm.isStatics = false) (hcls : s.vm.findClass C = some cellB.cls)
    {g : JFrame} (hg : g.method = m) (hsize : g.locals.size = c.maxLocals) {argsL rest : List Value} (hlen : ∀ sig, parseMethodDescriptor y.desc = some sig → argsL.length = sig.parameters.length)
    (hstack : g.stack = argsL.reverse ++ .ref b :: rest) (hW : 2 * g.monitorRoom + (rest.map fun v => v.category).sum ≤ W9) (hdg : decode c.code g.pc = .ok (.invokevirtual index, 3))
    (hpre : ∀ vm₁, s.WarmedH vm₁ → Pre ⟨T.setVm vm₁, locs, cells, slots⟩ (Value.ref b :: argsL).toArray) :
    ∃ (v : Option Value) (vm₁ : Vm) (B : Pt), s.WarmedH vm₁ ∧ Stand p l e R s m args below meth c B.U B.locs B.cells B.slots ∧ Post ⟨T.setVm vm₁, locs, cells, slots⟩ (Value.ref b :: argsL).toArray v B ∧
      ∀ target, Steps p.tables e below (B.U.setTop { g with pc := g.pc + 3, stack := v.toList ++ rest }) target → Steps p.tables e below (T.setTop g) target := by
  obtain ⟨mk, methM, hnamed, hmethM, hstM, habM⟩ := Cond.instanceMethod_spec hinst
  obtain ⟨m8, methM', cM, hn8, hmethM', -, -, -, -, -, -, hsigM⟩ := Cond.codeWith_spec hcode
  cases Option.some.inj (hn8.symm.trans hnamed)
  cases hmethM.symm.trans hmethM'
  obtain ⟨c2, r2, m2, q1, q2, q3, q4, kP, hkP, hkPi⟩ := Cond.selects_spec hsel
  cases hcls.symm.trans q1
  cases (State.methodFound?_of_named hnamed hy).symm.trans q2
  cases hnamed.symm.trans q3
  have hselP : selectMethod e.platform s.vm cellB.cls mk = .method mk := by rw [Launch.admits_selectMethod X.admits]; exact q4
  obtain ⟨vm₁, X₁, hstep₁⟩ := X.invokevirtual hexec hown hlink hnamed hmethM hstM hkP hkPi hy (a := b) (cell := cellB) hcell
    (fun z h => by rw [h] at hobj; cases hobj) hselP hmethM habM hkP hkPi (g := g) hg (argsL := argsL) (rest := rest) (hlen _ hsigM) hstack hdg
  obtain ⟨v, B, X', hpost, hsteps⟩ := hK m meth c ⟨T.setVm vm₁, locs, cells, slots⟩ { g with stack := rest } (.invokevirtual index) mk (Value.ref b :: argsL).toArray X₁ hg hsize hdg hW (X₁.named hnamed) (hpre vm₁ X₁.warmed)
  exact ⟨v, vm₁, B, X₁.warmed, X', hpost, fun target h => hstep₁ _ fun acts => by rw [doInvoke_state]; exact hsteps.trans h⟩
abbrev vx_CVW (R : Room) (s : State) (args : Array Value) (own C : String) (index : Nat) (y : MethodName) (bytes : ByteArray) (maxL : Nat) (ret : Option FieldType) (hh : List (Nat × Nat × Nat × Nat)) (ws : List Cond) (rm : Room) (mc ms n : Nat) : Prop :=
  (rm.cells = mc ∧ rm.slots = ms ∧ rm.frames + 1 ≤ R.frames ∧ 8 + (maxL + 11) + rm.locals ≤ R.locals ∧ (∀ w ∈ ws, ∀ (a' : Array Value) (U : State), s.WarmedH U.vm → w.before a' U = true) ∧ Cond.codeWith y bytes maxL ret hh ∈ ws) ∧
  (Cond.codeWith y bytes maxL ret hh).before args s = true ∧ (Cond.initialized y.cls).before args s = true ∧ (y.cls ≠ "java/lang/invoke/MethodHandle" ∧ y.cls ≠ "java/lang/invoke/VarHandle") ∧
  (∀ sig, parseMethodDescriptor y.desc = some sig → n = sig.parameters.length) ∧ (Cond.methodLink own index y).before args s = true ∧ (Cond.instanceMethod y).before args s = true ∧ (Cond.selects C y y).before args s = true
theorem vx_cwVW {own C : String} {index maxL mc ms : Nat} {y : MethodName} {bytes : ByteArray} {ret : Option FieldType} {hh : List (Nat × Nat × Nat × Nat)} {Ts ws ws' : List Cond} {rm : Room} (n : Nat) (ht : ∀ w ∈ Ts, w.before args s = true) (hT : GoodIn Ts (wsV own index C y ws)) (hw : ws = Cond.codeWith y bytes maxL ret hh :: ws') (hrc : rm.cells = mc) (hrs : rm.slots = ms)
    (hd : y.cls = C ∧ y.cls ≠ "java/lang/invoke/MethodHandle" ∧ y.cls ≠ "java/lang/invoke/VarHandle" ∧ (parseMethodDescriptor y.desc).map (fun d => d.parameters.length) = some n) (hR : rm.frames + 1 ≤ R.frames ∧ 8 + (maxL + 11) + rm.locals ≤ R.locals) :
    vx_CVW R s args own C index y bytes maxL ret hh ws rm mc ms n := by
  obtain ⟨hC, hd⟩ := hd
  subst hC
  have ok : ∀ w ∈ wsV own index y.cls y ws, w.before args s = true := fun w h => ht w (hT w h).1
  have hG : GoodIn Ts ws := fun w h => hT w (by unfold wsV; exact List.mem_append_right _ h)
  have hc : Cond.codeWith y bytes maxL ret hh ∈ ws := by rw [hw]; exact List.mem_cons_self
  refine ⟨⟨hrc, hrs, hR.1, hR.2, pay_in ht hG, hc⟩, ht _ (hG _ hc).1, ok _ (by simp [wsV]), ⟨hd.1, hd.2.1⟩, fun sig h => ?_, ok _ (by simp [wsV]), ok _ (by simp [wsV]), ok _ (by simp [wsV])⟩
  have h2 := hd.2.2
  rw [h] at h2
  exact (Option.some.inj h2).symm
theorem vx_runVW {y : MethodName} {bytes cc : ByteArray} {maxL nL mc ms n index : Nat} {ret : Option FieldType} {hh : List (Nat × Nat × Nat × Nat)} {ws : List Cond} {rm : Room} {Pc : Array Value → State → Prop} {Qc : Array Value → State → Outcome → State → Prop} {free : Addr → Prop} {Ts : List Cond} {own C : String} {b : Addr} {As rest : List Value} {g : JFrame}
    (S : CallFix p m c cc nL s args Ts own) (hM : Met l y ws rm Pc Qc mc ms free) (cw : vx_CVW R s args own C index y bytes maxL ret hh ws rm mc ms n) (hp : PreV s H C b Pc As)
    (hg : g.method = m) (hn : As.length = n) (hsize : g.locals.size = nL) (hstack : g.stack = As.reverse ++ .ref b :: rest) (hW : 2 * g.monitorRoom + (rest.map fun v => v.category).sum ≤ 8) (hdg : decode cc g.pc = .ok (.invokevirtual index, 3)) (hf : cells + mc ≤ R.cells ∧ slots + ms ≤ R.slots) :
    va_Run p l e R s m args below meth c H locs cells slots mc ms g rest (Qc (Value.ref b :: As).toArray) free := by
  obtain ⟨⟨hrc, hrs, hfr, hlo, hws, hcw⟩, hcode, hini, hy, hlen, hl, hin, hse⟩ := cw
  have hK : Back l R p e below s args y 3 8 (PreOf R mc ms Pc) (PostOf Qc mc ms free) := va_backW (hh := hh) (bytes := bytes) (maxL := maxL) (ret := ret) hM hp.1 hrc hrs hfr hlo hws hcw (fun a' U hW => word_at hW (Or.inl (by first | rfl | simp [Cond.onTables, Cond.keeps, Cond.steady])) hini)
  obtain ⟨hx, hb, hml, ho, -⟩ := S
  obtain ⟨-, ⟨cellB, hcB, hoB, hclB⟩, hPc⟩ := hp
  intro T hT X
  obtain ⟨v, vm₁, ⟨U', l2, c2, s2⟩, hW₁, X', ⟨g', mk, t, L, e1, e2, hq, h1, hL, h2, h3⟩, st⟩ := vx_callVW X hx (C := C) (hh := hh) (bytes := bytes) (maxL := maxL) (ret := ret) ho hl hin hse hcode hy hK (by rw [hT]; exact hcB) hoB hclB hg (hsize.trans hml.symm) (argsL := As) (rest := rest) (fun sig h => hn.trans (hlen sig h)) hstack hW (by rw [hb]; exact hdg)
    (fun vm₁ hW₁ => ⟨hf.1, hf.2, hPc (T.setVm vm₁) hT hW₁⟩)
  dsimp only [Pt.U, Pt.locs, Pt.cells, Pt.slots] at X' e1 e2 h1 h2 h3 st
  subst h1; subst h2; subst h3
  exact ⟨v, (T.setVm vm₁).calling g' mk (Value.ref b :: As).toArray, t, U', L, hT, X', hL, e1, e2, hq, st⟩
section
variable {y : MethodName} {bytes cc : ByteArray} {maxL nL mc ms n index : Nat} {ret : Option FieldType} {ws : List Cond} {rm : Room} {Pc : Array Value → State → Prop} {Qc : Array Value → State → Outcome → State → Prop} {XC : String → State → State → Prop} {free : Addr → Prop} {Ts : List Cond} {own C : String} {b : Addr} {As rest : List Value} {g : JFrame}
theorem vx_runVX {hh : List (Nat × Nat × Nat × Nat)} (S : CallFix p m c cc nL s args Ts own) (hM : vx_Met l y ws rm Pc Qc XC mc ms free) (cw : vx_CVW R s args own C index y bytes maxL ret hh ws rm mc ms n) (hp : PreV s H C b Pc As)
    (hg : g.method = m) (hn : As.length = n) (hsize : g.locals.size = nL) (hstack : g.stack = As.reverse ++ .ref b :: rest) (hW : 2 * g.monitorRoom + (rest.map fun v => v.category).sum ≤ 8) (hdg : decode cc g.pc = .ok (.invokevirtual index, 3)) (hf : cells + mc ≤ R.cells ∧ slots + ms ≤ R.slots) :
    vx_Run p l e R s m args below meth c H locs cells slots mc ms g rest (Qc (Value.ref b :: As).toArray) XC free := by
  obtain ⟨⟨hrc, hrs, hfr, hlo, hws, hcw⟩, hcode, hini, hy, hlen, hl, hin, hse⟩ := cw
  have hK : vx_Back l R p e below s args y 3 8 (PreOf R mc ms Pc) (PostOf Qc mc ms free) (vx_Post XC mc ms free) := vx_backW (hh := hh) (bytes := bytes) (maxL := maxL) (ret := ret) hM hp.1 hrc hrs hfr hlo hws hcw (fun a' U hW => word_at hW (Or.inl (by first | rfl | simp [Cond.onTables, Cond.keeps, Cond.steady])) hini)
  obtain ⟨hx, hb, hml, ho, -⟩ := S
  obtain ⟨-, ⟨cellB, hcB, hoB, hclB⟩, hPc⟩ := hp
  intro T hT X
  rcases vx_callVX X hx (C := C) (hh := hh) (bytes := bytes) (maxL := maxL) (ret := ret) ho hl hin hse hcode hy hK (by rw [hT]; exact hcB) hoB hclB hg (hsize.trans hml.symm) (argsL := As) (rest := rest) (fun sig h => hn.trans (hlen sig h)) hstack hW (by rw [hb]; exact hdg)
    (fun vm₁ hW₁ => ⟨hf.1, hf.2, hPc (T.setVm vm₁) hT hW₁⟩) with ⟨v, vm₁, ⟨U', l2, c2, s2⟩, hW₁, X', ⟨g', mk, t, L, e1, e2, hq, h1, hL, h2, h3⟩, st⟩ | ⟨q, vm₁, ⟨U', l2, c2, s2⟩, hW₁, X', ⟨g', mk, t, L, E, ce, e1, e2, hq, hce, hcv, hcl, h1, hL, h2, h3⟩, st⟩
  · dsimp only [Pt.U, Pt.locs, Pt.cells, Pt.slots] at X' e1 e2 h1 h2 h3 st
    subst h1; subst h2; subst h3
    exact Or.inl ⟨v, (T.setVm vm₁).calling g' mk (Value.ref b :: As).toArray, t, U', L, hT, X', hL, e1, e2, hq, st⟩
  · dsimp only [Pt.U, Pt.locs, Pt.cells, Pt.slots] at X' e1 e2 h1 h2 h3 st hcl
    subst h1; subst h2; subst h3
    exact Or.inr ⟨q, (T.setVm vm₁).calling g' mk (Value.ref b :: As).toArray, t, U', L, E, ce, hT, X', hL, e1, e2, hq, hce, hcv, vx_cls hW₁ hcl, st⟩
theorem vx_runSX {hh : List (Nat × Nat × Nat × Nat)} (S : CallFix p m c cc nL s args Ts own) (hM : vx_Met l y ws rm Pc Qc XC mc ms free) (cw : vx_CSW R s args own index y bytes maxL ret hh ws rm mc ms n) (hp : PreS s H Pc As)
    (hg : g.method = m) (hn : As.length = n) (hsize : g.locals.size = nL) (hstack : g.stack = As.reverse ++ rest) (hW : 2 * g.monitorRoom + (rest.map fun v => v.category).sum ≤ 8) (hdg : decode cc g.pc = .ok (.invokestatic index, 3)) (hf : cells + mc ≤ R.cells ∧ slots + ms ≤ R.slots) :
    vx_Run p l e R s m args below meth c H locs cells slots mc ms g rest (Qc As.toArray) XC free := by
  obtain ⟨⟨hrc, hrs, hfr, hlo, hws, hcw⟩, hcode, hini, hy, hlen, hl, hstt⟩ := cw
  have hK : vx_Back l R p e below s args y 3 8 (PreOf R mc ms Pc) (PostOf Qc mc ms free) (vx_Post XC mc ms free) := vx_backW (hh := hh) (bytes := bytes) (maxL := maxL) (ret := ret) hM hp.1 hrc hrs hfr hlo hws hcw (fun a' U hW => word_at hW (Or.inl (by first | rfl | simp [Cond.onTables, Cond.keeps, Cond.steady])) hini)
  obtain ⟨hx, hb, hml, ho, -⟩ := S
  intro T hT X
  rcases vx_callSX X hx (hh := hh) (bytes := bytes) (maxL := maxL) (ret := ret) ho hl hstt hini hcode hy hK hg (hsize.trans hml.symm) (argsL := As) (rest := rest) (fun sig h => hn.trans (hlen sig h)) hstack hW (by rw [hb]; exact hdg)
    (fun vm₁ hW₁ => ⟨hf.1, hf.2, hp.2 (T.setVm vm₁) hT hW₁⟩) with ⟨v, vm₁, ⟨U', l2, c2, s2⟩, hW₁, X', ⟨g', mk, t, L, e1, e2, hq, h1, hL, h2, h3⟩, st⟩ | ⟨q, vm₁, ⟨U', l2, c2, s2⟩, hW₁, X', ⟨g', mk, t, L, E, ce, e1, e2, hq, hce, hcv, hcl, h1, hL, h2, h3⟩, st⟩
  · dsimp only [Pt.U, Pt.locs, Pt.cells, Pt.slots] at X' e1 e2 h1 h2 h3 st
    subst h1; subst h2; subst h3
    exact Or.inl ⟨v, (T.setVm vm₁).calling g' mk As.toArray, t, U', L, hT, X', hL, e1, e2, hq, st⟩
  · dsimp only [Pt.U, Pt.locs, Pt.cells, Pt.slots] at X' e1 e2 h1 h2 h3 st hcl
    subst h1; subst h2; subst h3
    exact Or.inr ⟨q, (T.setVm vm₁).calling g' mk As.toArray, t, U', L, E, ce, hT, X', hL, e1, e2, hq, hce, hcv, vx_cls hW₁ hcl, st⟩
end
end VXH
theorem vx_ofWH {l : Launch} {y : MethodName} {ws ws' : List Cond} {rm : Room} {Pc : Array Value → State → Prop} {Qc : Array Value → State → Outcome → State → Prop} {XC : String → State → State → Prop} {mc ms : Nat} {free : Addr → Prop} {cc : ByteArray} {maxL : Nat} {ret : Option FieldType} {hh : List (Nat × Nat × Nat × Nat)}
    (hy : plainName y.cls = true) (hw : ws = Cond.codeWith y cc maxL ret hh :: ws')
    (body : ∀ p e s m args below meth c s₁, BodyLoose p l y (headSpec ws rm) cc maxL ret e s m args below meth c s₁ → c.maxLocals = maxL → Pc args s →
      W p l e (headSpec ws rm).room s m args below meth c s.heap [] 0 0 (vx_MQ below Qc XC args s mc ms free) (entryFrame m args maxL)) : vx_Met l y ws rm Pc Qc XC mc ms free := by
  refine MetFree.of_bodyS (code := cc) (maxLocals := maxL) (ret := ret) hy ?_ ?_
  · intro args s m h hn
    obtain ⟨m9, meth, c, hn9, h1, h2, h3, h4, -, h5, h6, -⟩ := Cond.codeWith_spec (atoms_spec (ws := ws) h _ (by rw [hw]; exact List.mem_cons_self))
    cases hn.symm.trans hn9
    exact ⟨meth, c, h1, h2, h3, h4, h5, h6⟩
  · intro p e s m args below meth c s₁ B hml hP _
    have hh0 : s₁.heap = s.heap := by rw [B.state]; rfl
    obtain ⟨t, a1, o, b1, b2, b3⟩ := body p e s m args below meth c s₁ B hml hP s₁ hh0 (Stand.of_body B)
    exact ⟨t, o, a1, b1, b2, b3⟩
/-! ===== END ===== -/
end
section
/-! names: out of the printed NAMES.whole -/
def RX0 : String := "ShortMill$Grammar"
def TX0 : u_T := fun k => match k with
  | 0 => ("ShortMill$Grammar", "text", "LShortMill$Text;", true)
  | 1 => ("ShortMill$Grammar", "draft", "LShortMill$Program;", true)
  | 2 => ("ShortMill$Grammar", "arguments", "[I", true)
  | 3 => ("ShortMill$Grammar", "place", "I", false)
  | 4 => ("ShortMill$Grammar", "error", "I", false)
  | _ => ("ShortMill$Grammar", "errorPlace", "I", false)
def tyX0 : Nat → FieldType := fun k => match k with
  | 0 => .object "ShortMill$Text"
  | 1 => .object "ShortMill$Program"
  | 2 => .array .int
  | 3 => .int
  | 4 => .int
  | _ => .int
abbrev wsX00 : List Cond := u_ws RX0 TX0 6
theorem nmX0 : ∀ a, a < 6 → ∀ b, b < 6 → a ≠ b → (TX0 a).2.1 ≠ (TX0 b).2.1 := by decide +kernel
theorem tyX0_ok : ∀ k, k < 6 → parseFieldDescriptor (TX0 k).2.2.1 = some (tyX0 k) := by decide +kernel
abbrev cX0_init : ByteArray := prog_2_method_1_code
def yX0_init : MethodName := ⟨RX0, "<init>", "(LShortMill$Text;LShortMill$Program;)V"⟩
abbrev cX0_fault : ByteArray := prog_2_method_2_code
def yX0_fault : MethodName := ⟨RX0, "fault", "()I"⟩
abbrev cX0_clear : ByteArray := prog_2_method_3_code
def yX0_clear : MethodName := ⟨RX0, "clear", "()V"⟩
abbrev cX0_now : ByteArray := prog_2_method_4_code
def yX0_now : MethodName := ⟨RX0, "now", "()I"⟩
abbrev cX0_next : ByteArray := prog_2_method_5_code
def yX0_next : MethodName := ⟨RX0, "next", "()V"⟩
abbrev cX0_expect : ByteArray := prog_2_method_6_code
def yX0_expect : MethodName := ⟨RX0, "expect", "(I)V"⟩
abbrev cX0_fail : ByteArray := prog_2_method_7_code
def yX0_fail : MethodName := ⟨RX0, "fail", "(I)V"⟩
abbrev cX0_readFunction : ByteArray := prog_2_method_8_code
def yX0_readFunction : MethodName := ⟨RX0, "readFunction", "()V"⟩
abbrev cX0_readBlock : ByteArray := prog_2_method_9_code
def yX0_readBlock : MethodName := ⟨RX0, "readBlock", "(I)V"⟩
abbrev cX0_readStatement : ByteArray := prog_2_method_10_code
def yX0_readStatement : MethodName := ⟨RX0, "readStatement", "(I)V"⟩
abbrev cX0_readIf : ByteArray := prog_2_method_11_code
def yX0_readIf : MethodName := ⟨RX0, "readIf", "(I)V"⟩
abbrev cX0_readWhile : ByteArray := prog_2_method_12_code
def yX0_readWhile : MethodName := ⟨RX0, "readWhile", "(II)V"⟩
abbrev cX0_readChoice : ByteArray := prog_2_method_13_code
def yX0_readChoice : MethodName := ⟨RX0, "readChoice", "()V"⟩
abbrev cX0_readWord : ByteArray := prog_2_method_14_code
def yX0_readWord : MethodName := ⟨RX0, "readWord", "(I)V"⟩
abbrev cX0_readSetting : ByteArray := prog_2_method_15_code
def yX0_readSetting : MethodName := ⟨RX0, "readSetting", "(I)V"⟩
abbrev cX0_readIndex : ByteArray := prog_2_method_16_code
def yX0_readIndex : MethodName := ⟨RX0, "readIndex", "(I)V"⟩
abbrev cX0_readCall : ByteArray := prog_2_method_17_code
def yX0_readCall : MethodName := ⟨RX0, "readCall", "(I)V"⟩
abbrev cX0_readValue : ByteArray := prog_2_method_18_code
def yX0_readValue : MethodName := ⟨RX0, "readValue", "(I)V"⟩
abbrev cX0_readSum : ByteArray := prog_2_method_19_code
def yX0_readSum : MethodName := ⟨RX0, "readSum", "(I)V"⟩
abbrev cX0_readProduct : ByteArray := prog_2_method_20_code
def yX0_readProduct : MethodName := ⟨RX0, "readProduct", "(I)V"⟩
abbrev cX0_readPart : ByteArray := prog_2_method_21_code
def yX0_readPart : MethodName := ⟨RX0, "readPart", "(I)V"⟩
abbrev cX0_readPiece : ByteArray := prog_2_method_22_code
def yX0_readPiece : MethodName := ⟨RX0, "readPiece", "(I)V"⟩
abbrev cX0_readSingle : ByteArray := prog_2_method_23_code
def yX0_readSingle : MethodName := ⟨RX0, "readSingle", "(I)V"⟩
abbrev cX0_checkCalls : ByteArray := prog_2_method_24_code
def yX0_checkCalls : MethodName := ⟨RX0, "checkCalls", "()V"⟩
abbrev cX0_checkCall : ByteArray := prog_2_method_25_code
def yX0_checkCall : MethodName := ⟨RX0, "checkCall", "(II)V"⟩
abbrev cX0_isOf : ByteArray := prog_2_method_26_code
def yX0_isOf : MethodName := ⟨RX0, "isOf", "(III)Z"⟩
def RX1 : String := "ShortMill$Keys"
def TX1 : u_T := fun k => match k with
  | 0 => ("ShortMill$Keys", "ring", "[I", true)
  | 1 => ("ShortMill$Keys", "first", "I", false)
  | _ => ("ShortMill$Keys", "count", "I", false)
def tyX1 : Nat → FieldType := fun k => match k with
  | 0 => .array .int
  | 1 => .int
  | _ => .int
abbrev wsX10 : List Cond := u_ws RX1 TX1 3
theorem nmX1 : ∀ a, a < 3 → ∀ b, b < 3 → a ≠ b → (TX1 a).2.1 ≠ (TX1 b).2.1 := by decide +kernel
theorem tyX1_ok : ∀ k, k < 3 → parseFieldDescriptor (TX1 k).2.2.1 = some (tyX1 k) := by decide +kernel
abbrev cX1_init : ByteArray := prog_3_method_1_code
def yX1_init : MethodName := ⟨RX1, "<init>", "()V"⟩
abbrev cX1_count : ByteArray := prog_3_method_2_code
def yX1_count : MethodName := ⟨RX1, "count", "()I"⟩
abbrev cX1_full : ByteArray := prog_3_method_3_code
def yX1_full : MethodName := ⟨RX1, "full", "()Z"⟩
abbrev cX1_add : ByteArray := prog_3_method_4_code
def yX1_add : MethodName := ⟨RX1, "add", "(I)V"⟩
abbrev cX1_take : ByteArray := prog_3_method_5_code
def yX1_take : MethodName := ⟨RX1, "take", "()I"⟩
def RX2 : String := "ShortMill$Machine"
def TX2 : u_T := fun k => match k with
  | 0 => ("ShortMill$Machine", "program", "LShortMill$Program;", true)
  | 1 => ("ShortMill$Machine", "keys", "LShortMill$Keys;", true)
  | 2 => ("ShortMill$Machine", "globals", "[I", true)
  | 3 => ("ShortMill$Machine", "places", "[I", true)
  | 4 => ("ShortMill$Machine", "locals", "[I", true)
  | 5 => ("ShortMill$Machine", "returns", "[I", true)
  | 6 => ("ShortMill$Machine", "stack", "[I", true)
  | 7 => ("ShortMill$Machine", "kept", "[I", true)
  | 8 => ("ShortMill$Machine", "state", "I", false)
  | 9 => ("ShortMill$Machine", "begun", "I", false)
  | 10 => ("ShortMill$Machine", "shown", "I", false)
  | 11 => ("ShortMill$Machine", "running", "I", false)
  | 12 => ("ShortMill$Machine", "top", "I", false)
  | _ => ("ShortMill$Machine", "place", "I", false)
def tyX2 : Nat → FieldType := fun k => match k with
  | 0 => .object "ShortMill$Program"
  | 1 => .object "ShortMill$Keys"
  | 2 => .array .int
  | 3 => .array .int
  | 4 => .array .int
  | 5 => .array .int
  | 6 => .array .int
  | 7 => .array .int
  | 8 => .int
  | 9 => .int
  | 10 => .int
  | 11 => .int
  | 12 => .int
  | _ => .int
abbrev wsX20 : List Cond := u_ws RX2 TX2 14
theorem nmX2 : ∀ a, a < 14 → ∀ b, b < 14 → a ≠ b → (TX2 a).2.1 ≠ (TX2 b).2.1 := by decide +kernel
theorem tyX2_ok : ∀ k, k < 14 → parseFieldDescriptor (TX2 k).2.2.1 = some (tyX2 k) := by decide +kernel
abbrev cX2_init : ByteArray := prog_4_method_1_code
def yX2_init : MethodName := ⟨RX2, "<init>", "(LShortMill$Program;LShortMill$Keys;)V"⟩
abbrev cX2_state : ByteArray := prog_4_method_2_code
def yX2_state : MethodName := ⟨RX2, "state", "()I"⟩
abbrev cX2_begun : ByteArray := prog_4_method_3_code
def yX2_begun : MethodName := ⟨RX2, "begun", "()I"⟩
abbrev cX2_countShown : ByteArray := prog_4_method_4_code
def yX2_countShown : MethodName := ⟨RX2, "countShown", "()I"⟩
abbrev cX2_running : ByteArray := prog_4_method_5_code
def yX2_running : MethodName := ⟨RX2, "running", "()I"⟩
abbrev cX2_hasShown : ByteArray := prog_4_method_6_code
def yX2_hasShown : MethodName := ⟨RX2, "hasShown", "(I)Z"⟩
abbrev cX2_shownAt : ByteArray := prog_4_method_7_code
def yX2_shownAt : MethodName := ⟨RX2, "shownAt", "(I)I"⟩
abbrev cX2_globalAt : ByteArray := prog_4_method_8_code
def yX2_globalAt : MethodName := ⟨RX2, "globalAt", "(I)I"⟩
abbrev cX2_placeAt : ByteArray := prog_4_method_9_code
def yX2_placeAt : MethodName := ⟨RX2, "placeAt", "(II)I"⟩
abbrev cX2_clear : ByteArray := prog_4_method_10_code
def yX2_clear : MethodName := ⟨RX2, "clear", "()V"⟩
abbrev cX2_begin : ByteArray := prog_4_method_11_code
def yX2_begin : MethodName := ⟨RX2, "begin", "()V"⟩
abbrev cX2_go : ByteArray := prog_4_method_12_code
def yX2_go : MethodName := ⟨RX2, "go", "(I)I"⟩
abbrev cX2_act : ByteArray := prog_4_method_13_code
def yX2_act : MethodName := ⟨RX2, "act", "(II)V"⟩
abbrev cX2_actOnVariable : ByteArray := prog_4_method_14_code
def yX2_actOnVariable : MethodName := ⟨RX2, "actOnVariable", "(II)V"⟩
abbrev cX2_combine : ByteArray := prog_4_method_15_code
def yX2_combine : MethodName := ⟨RX2, "combine", "(I)V"⟩
abbrev cX2_divide : ByteArray := prog_4_method_16_code
def yX2_divide : MethodName := ⟨RX2, "divide", "(III)V"⟩
abbrev cX2_push : ByteArray := prog_4_method_17_code
def yX2_push : MethodName := ⟨RX2, "push", "(I)V"⟩
abbrev cX2_pop : ByteArray := prog_4_method_18_code
def yX2_pop : MethodName := ⟨RX2, "pop", "()I"⟩
abbrev cX2_read : ByteArray := prog_4_method_19_code
def yX2_read : MethodName := ⟨RX2, "read", "()V"⟩
abbrev cX2_show : ByteArray := prog_4_method_20_code
def yX2_show : MethodName := ⟨RX2, "show", "(I)V"⟩
abbrev cX2_setGlobal : ByteArray := prog_4_method_21_code
def yX2_setGlobal : MethodName := ⟨RX2, "setGlobal", "(II)V"⟩
abbrev cX2_localAt : ByteArray := prog_4_method_22_code
def yX2_localAt : MethodName := ⟨RX2, "localAt", "(I)I"⟩
abbrev cX2_setLocal : ByteArray := prog_4_method_23_code
def yX2_setLocal : MethodName := ⟨RX2, "setLocal", "(II)V"⟩
abbrev cX2_getPlace : ByteArray := prog_4_method_24_code
def yX2_getPlace : MethodName := ⟨RX2, "getPlace", "(I)V"⟩
abbrev cX2_setPlace : ByteArray := prog_4_method_25_code
def yX2_setPlace : MethodName := ⟨RX2, "setPlace", "(I)V"⟩
abbrev cX2_call : ByteArray := prog_4_method_26_code
def yX2_call : MethodName := ⟨RX2, "call", "(I)V"⟩
abbrev cX2_enter : ByteArray := prog_4_method_27_code
def yX2_enter : MethodName := ⟨RX2, "enter", "(I)V"⟩
abbrev cX2_leave : ByteArray := prog_4_method_28_code
def yX2_leave : MethodName := ⟨RX2, "leave", "()V"⟩
def RX3 : String := "ShortMill$Program"
def TX3 : u_T := fun k => match k with
  | 0 => ("ShortMill$Program", "steps", "[I", true)
  | 1 => ("ShortMill$Program", "operands", "[I", true)
  | 2 => ("ShortMill$Program", "entries", "[I", true)
  | 3 => ("ShortMill$Program", "signs", "[I", true)
  | 4 => ("ShortMill$Program", "length", "I", false)
  | _ => ("ShortMill$Program", "functions", "I", false)
def tyX3 : Nat → FieldType := fun k => match k with
  | 0 => .array .int
  | 1 => .array .int
  | 2 => .array .int
  | 3 => .array .int
  | 4 => .int
  | _ => .int
abbrev wsX30 : List Cond := u_ws RX3 TX3 6
theorem nmX3 : ∀ a, a < 6 → ∀ b, b < 6 → a ≠ b → (TX3 a).2.1 ≠ (TX3 b).2.1 := by decide +kernel
theorem tyX3_ok : ∀ k, k < 6 → parseFieldDescriptor (TX3 k).2.2.1 = some (tyX3 k) := by decide +kernel
abbrev cX3_init : ByteArray := prog_5_method_1_code
def yX3_init : MethodName := ⟨RX3, "<init>", "()V"⟩
abbrev cX3_functions : ByteArray := prog_5_method_2_code
def yX3_functions : MethodName := ⟨RX3, "functions", "()I"⟩
abbrev cX3_stepAt : ByteArray := prog_5_method_3_code
def yX3_stepAt : MethodName := ⟨RX3, "stepAt", "(I)I"⟩
abbrev cX3_operandAt : ByteArray := prog_5_method_4_code
def yX3_operandAt : MethodName := ⟨RX3, "operandAt", "(I)I"⟩
abbrev cX3_entryOf : ByteArray := prog_5_method_5_code
def yX3_entryOf : MethodName := ⟨RX3, "entryOf", "(I)I"⟩
abbrev cX3_parametersOf : ByteArray := prog_5_method_6_code
def yX3_parametersOf : MethodName := ⟨RX3, "parametersOf", "(I)I"⟩
abbrev cX3_clear : ByteArray := prog_5_method_7_code
def yX3_clear : MethodName := ⟨RX3, "clear", "()V"⟩
abbrev cX3_addFunction : ByteArray := prog_5_method_8_code
def yX3_addFunction : MethodName := ⟨RX3, "addFunction", "(II)V"⟩
abbrev cX3_add : ByteArray := prog_5_method_9_code
def yX3_add : MethodName := ⟨RX3, "add", "(II)I"⟩
abbrev cX3_aim : ByteArray := prog_5_method_10_code
def yX3_aim : MethodName := ⟨RX3, "aim", "(I)V"⟩
abbrev cX3_copy : ByteArray := prog_5_method_11_code
def yX3_copy : MethodName := ⟨RX3, "copy", "(LShortMill$Program;)V"⟩
def RX4 : String := "ShortMill$Text"
def TX4 : u_T := fun k => match k with
  | 0 => ("ShortMill$Text", "tokens", "[I", true)
  | _ => ("ShortMill$Text", "length", "I", false)
def tyX4 : Nat → FieldType := fun k => match k with
  | 0 => .array .int
  | _ => .int
abbrev wsX40 : List Cond := u_ws RX4 TX4 2
theorem nmX4 : ∀ a, a < 2 → ∀ b, b < 2 → a ≠ b → (TX4 a).2.1 ≠ (TX4 b).2.1 := by decide +kernel
theorem tyX4_ok : ∀ k, k < 2 → parseFieldDescriptor (TX4 k).2.2.1 = some (tyX4 k) := by decide +kernel
abbrev cX4_init : ByteArray := prog_6_method_1_code
def yX4_init : MethodName := ⟨RX4, "<init>", "()V"⟩
abbrev cX4_length : ByteArray := prog_6_method_2_code
def yX4_length : MethodName := ⟨RX4, "length", "()I"⟩
abbrev cX4_at : ByteArray := prog_6_method_3_code
def yX4_at : MethodName := ⟨RX4, "at", "(I)I"⟩
abbrev cX4_add : ByteArray := prog_6_method_4_code
def yX4_add : MethodName := ⟨RX4, "add", "(I)V"⟩
abbrev cX4_clear : ByteArray := prog_6_method_5_code
def yX4_clear : MethodName := ⟨RX4, "clear", "()V"⟩
def RX5 : String := "ShortMill"
def TX5 : u_T := fun k => match k with
  | 0 => ("ShortMill", "text", "LShortMill$Text;", true)
  | 1 => ("ShortMill", "keys", "LShortMill$Keys;", true)
  | 2 => ("ShortMill", "program", "LShortMill$Program;", true)
  | 3 => ("ShortMill", "draft", "LShortMill$Program;", true)
  | 4 => ("ShortMill", "grammar", "LShortMill$Grammar;", true)
  | _ => ("ShortMill", "machine", "LShortMill$Machine;", true)
def tyX5 : Nat → FieldType := fun k => match k with
  | 0 => .object "ShortMill$Text"
  | 1 => .object "ShortMill$Keys"
  | 2 => .object "ShortMill$Program"
  | 3 => .object "ShortMill$Program"
  | 4 => .object "ShortMill$Grammar"
  | _ => .object "ShortMill$Machine"
abbrev wsX50 : List Cond := u_ws RX5 TX5 6
theorem nmX5 : ∀ a, a < 6 → ∀ b, b < 6 → a ≠ b → (TX5 a).2.1 ≠ (TX5 b).2.1 := by decide +kernel
theorem tyX5_ok : ∀ k, k < 6 → parseFieldDescriptor (TX5 k).2.2.1 = some (tyX5 k) := by decide +kernel
abbrev cX5_init : ByteArray := prog_1_method_1_code
def yX5_init : MethodName := ⟨RX5, "<init>", "()V"⟩
abbrev cX5_words : ByteArray := prog_1_method_2_code
def yX5_words : MethodName := ⟨RX5, "words", "(II)I"⟩
abbrev cX5_compile : ByteArray := prog_1_method_3_code
def yX5_compile : MethodName := ⟨RX5, "compile", "()I"⟩
abbrev cX5_start : ByteArray := prog_1_method_4_code
def yX5_start : MethodName := ⟨RX5, "start", "()Z"⟩
abbrev cX5_key : ByteArray := prog_1_method_5_code
def yX5_key : MethodName := ⟨RX5, "key", "(I)I"⟩
abbrev cX5_run : ByteArray := prog_1_method_6_code
def yX5_run : MethodName := ⟨RX5, "run", "(I)I"⟩
abbrev cX5_shown : ByteArray := prog_1_method_7_code
def yX5_shown : MethodName := ⟨RX5, "shown", "(I)I"⟩
abbrev cX5_global : ByteArray := prog_1_method_8_code
def yX5_global : MethodName := ⟨RX5, "global", "(I)I"⟩
abbrev cX5_array : ByteArray := prog_1_method_9_code
def yX5_array : MethodName := ⟨RX5, "array", "(II)I"⟩
abbrev cX5_about : ByteArray := prog_1_method_10_code
def yX5_about : MethodName := ⟨RX5, "about", "(I)I"⟩
abbrev cX5_byteOf : ByteArray := prog_1_method_11_code
def yX5_byteOf : MethodName := ⟨RX5, "byteOf", "(II)I"⟩
def RX6 : String := "ShortMillModel"
def TX6 : u_T := fun k => match k with
  | 0 => ("ShortMillModel", "threw", "I", false)
  | 1 => ("ShortMillModel", "size", "I", false)
  | 2 => ("ShortMillModel", "text", "[I", true)
  | 3 => ("ShortMillModel", "error", "I", false)
  | 4 => ("ShortMillModel", "where", "I", false)
  | 5 => ("ShortMillModel", "next", "I", false)
  | 6 => ("ShortMillModel", "mode", "I", false)
  | 7 => ("ShortMillModel", "done", "Z", false)
  | 8 => ("ShortMillModel", "written", "I", false)
  | 9 => ("ShortMillModel", "made", "[I", true)
  | 10 => ("ShortMillModel", "with", "[I", true)
  | 11 => ("ShortMillModel", "step", "[I", true)
  | 12 => ("ShortMillModel", "arg", "[I", true)
  | 13 => ("ShortMillModel", "madeEntry", "[I", true)
  | 14 => ("ShortMillModel", "madeParams", "[I", true)
  | 15 => ("ShortMillModel", "entry", "[I", true)
  | 16 => ("ShortMillModel", "params", "[I", true)
  | 17 => ("ShortMillModel", "functions", "I", false)
  | 18 => ("ShortMillModel", "calls", "I", false)
  | 19 => ("ShortMillModel", "callAt", "[I", true)
  | 20 => ("ShortMillModel", "called", "[I", true)
  | 21 => ("ShortMillModel", "given", "[I", true)
  | 22 => ("ShortMillModel", "blocks", "I", false)
  | 23 => ("ShortMillModel", "block", "[I", true)
  | 24 => ("ShortMillModel", "fill", "[I", true)
  | 25 => ("ShortMillModel", "back", "[I", true)
  | 26 => ("ShortMillModel", "values", "I", false)
  | 27 => ("ShortMillModel", "value", "[I", true)
  | 28 => ("ShortMillModel", "sign", "[I", true)
  | 29 => ("ShortMillModel", "base", "[I", true)
  | 30 => ("ShortMillModel", "name", "[I", true)
  | 31 => ("ShortMillModel", "waiting", "I", false)
  | 32 => ("ShortMillModel", "operation", "[I", true)
  | 33 => ("ShortMillModel", "level", "[I", true)
  | 34 => ("ShortMillModel", "target", "I", false)
  | 35 => ("ShortMillModel", "targetKind", "I", false)
  | 36 => ("ShortMillModel", "begun", "I", false)
  | 37 => ("ShortMillModel", "state", "I", false)
  | 38 => ("ShortMillModel", "at", "I", false)
  | 39 => ("ShortMillModel", "shownCount", "I", false)
  | 40 => ("ShortMillModel", "keys", "I", false)
  | 41 => ("ShortMillModel", "statements", "I", false)
  | 42 => ("ShortMillModel", "globals", "[I", true)
  | 43 => ("ShortMillModel", "arrays", "[I", true)
  | 44 => ("ShortMillModel", "key", "[I", true)
  | 45 => ("ShortMillModel", "shownRing", "[I", true)
  | 46 => ("ShortMillModel", "running", "I", false)
  | 47 => ("ShortMillModel", "top", "I", false)
  | 48 => ("ShortMillModel", "locals", "[I", true)
  | 49 => ("ShortMillModel", "returnTo", "[I", true)
  | 50 => ("ShortMillModel", "floor", "[I", true)
  | _ => ("ShortMillModel", "pile", "[I", true)
def tyX6 : Nat → FieldType := fun k => match k with
  | 0 => .int
  | 1 => .int
  | 2 => .array .int
  | 3 => .int
  | 4 => .int
  | 5 => .int
  | 6 => .int
  | 7 => .boolean
  | 8 => .int
  | 9 => .array .int
  | 10 => .array .int
  | 11 => .array .int
  | 12 => .array .int
  | 13 => .array .int
  | 14 => .array .int
  | 15 => .array .int
  | 16 => .array .int
  | 17 => .int
  | 18 => .int
  | 19 => .array .int
  | 20 => .array .int
  | 21 => .array .int
  | 22 => .int
  | 23 => .array .int
  | 24 => .array .int
  | 25 => .array .int
  | 26 => .int
  | 27 => .array .int
  | 28 => .array .int
  | 29 => .array .int
  | 30 => .array .int
  | 31 => .int
  | 32 => .array .int
  | 33 => .array .int
  | 34 => .int
  | 35 => .int
  | 36 => .int
  | 37 => .int
  | 38 => .int
  | 39 => .int
  | 40 => .int
  | 41 => .int
  | 42 => .array .int
  | 43 => .array .int
  | 44 => .array .int
  | 45 => .array .int
  | 46 => .int
  | 47 => .int
  | 48 => .array .int
  | 49 => .array .int
  | 50 => .array .int
  | _ => .array .int
abbrev wsX60 : List Cond := u_ws RX6 TX6 52
theorem nmX6 : ∀ a, a < 52 → ∀ b, b < 52 → a ≠ b → (TX6 a).2.1 ≠ (TX6 b).2.1 := by decide +kernel
theorem tyX6_ok : ∀ k, k < 52 → parseFieldDescriptor (TX6 k).2.2.1 = some (tyX6 k) := by decide +kernel
abbrev cX6_init : ByteArray := prog_8_method_1_code
def yX6_init : MethodName := ⟨RX6, "<init>", "()V"⟩
abbrev cX6_thrown : ByteArray := prog_8_method_2_code
def yX6_thrown : MethodName := ⟨RX6, "thrown", "()I"⟩
abbrev cX6_words : ByteArray := prog_8_method_3_code
def yX6_words : MethodName := ⟨RX6, "words", "(II)I"⟩
abbrev cX6_token : ByteArray := prog_8_method_4_code
def yX6_token : MethodName := ⟨RX6, "token", "()I"⟩
abbrev cX6_wrong : ByteArray := prog_8_method_5_code
def yX6_wrong : MethodName := ⟨RX6, "wrong", "(II)V"⟩
abbrev cX6_must : ByteArray := prog_8_method_6_code
def yX6_must : MethodName := ⟨RX6, "must", "(I)Z"⟩
abbrev cX6_in : ByteArray := prog_8_method_7_code
def yX6_in : MethodName := ⟨RX6, "in", "(III)Z"⟩
abbrev cX6_emit : ByteArray := prog_8_method_8_code
def yX6_emit : MethodName := ⟨RX6, "emit", "(II)I"⟩
abbrev cX6_function : ByteArray := prog_8_method_9_code
def yX6_function : MethodName := ⟨RX6, "function", "()V"⟩
abbrev cX6_begins : ByteArray := prog_8_method_10_code
def yX6_begins : MethodName := ⟨RX6, "begins", "(III)V"⟩
abbrev cX6_worth : ByteArray := prog_8_method_11_code
def yX6_worth : MethodName := ⟨RX6, "worth", "(I)V"⟩
abbrev cX6_enters : ByteArray := prog_8_method_12_code
def yX6_enters : MethodName := ⟨RX6, "enters", "(II)V"⟩
abbrev cX6_fresh : ByteArray := prog_8_method_13_code
def yX6_fresh : MethodName := ⟨RX6, "fresh", "()V"⟩
abbrev cX6_blockEnds : ByteArray := prog_8_method_14_code
def yX6_blockEnds : MethodName := ⟨RX6, "blockEnds", "()V"⟩
abbrev cX6_call : ByteArray := prog_8_method_15_code
def yX6_call : MethodName := ⟨RX6, "call", "()I"⟩
abbrev cX6_callEnds : ByteArray := prog_8_method_16_code
def yX6_callEnds : MethodName := ⟨RX6, "callEnds", "(I)V"⟩
abbrev cX6_statement : ByteArray := prog_8_method_17_code
def yX6_statement : MethodName := ⟨RX6, "statement", "()V"⟩
abbrev cX6_piece : ByteArray := prog_8_method_18_code
def yX6_piece : MethodName := ⟨RX6, "piece", "()V"⟩
abbrev cX6_arguments : ByteArray := prog_8_method_19_code
def yX6_arguments : MethodName := ⟨RX6, "arguments", "(I)V"⟩
abbrev cX6_levelOf : ByteArray := prog_8_method_20_code
def yX6_levelOf : MethodName := ⟨RX6, "levelOf", "(I)I"⟩
abbrev cX6_reduce : ByteArray := prog_8_method_21_code
def yX6_reduce : MethodName := ⟨RX6, "reduce", "(I)V"⟩
abbrev cX6_behind : ByteArray := prog_8_method_22_code
def yX6_behind : MethodName := ⟨RX6, "behind", "()V"⟩
abbrev cX6_valueEnds : ByteArray := prog_8_method_23_code
def yX6_valueEnds : MethodName := ⟨RX6, "valueEnds", "(II)V"⟩
abbrev cX6_argumentEnds : ByteArray := prog_8_method_24_code
def yX6_argumentEnds : MethodName := ⟨RX6, "argumentEnds", "(II)V"⟩
abbrev cX6_readText : ByteArray := prog_8_method_25_code
def yX6_readText : MethodName := ⟨RX6, "readText", "()V"⟩
abbrev cX6_nothing : ByteArray := prog_8_method_26_code
def yX6_nothing : MethodName := ⟨RX6, "nothing", "()V"⟩
abbrev cX6_compile : ByteArray := prog_8_method_27_code
def yX6_compile : MethodName := ⟨RX6, "compile", "()I"⟩
abbrev cX6_enter : ByteArray := prog_8_method_28_code
def yX6_enter : MethodName := ⟨RX6, "enter", "(II)V"⟩
abbrev cX6_start : ByteArray := prog_8_method_29_code
def yX6_start : MethodName := ⟨RX6, "start", "()Z"⟩
abbrev cX6_key : ByteArray := prog_8_method_30_code
def yX6_key : MethodName := ⟨RX6, "key", "(I)I"⟩
abbrev cX6_wrap : ByteArray := prog_8_method_31_code
def yX6_wrap : MethodName := ⟨RX6, "wrap", "(I)I"⟩
abbrev cX6_push : ByteArray := prog_8_method_32_code
def yX6_push : MethodName := ⟨RX6, "push", "(I)V"⟩
abbrev cX6_pop : ByteArray := prog_8_method_33_code
def yX6_pop : MethodName := ⟨RX6, "pop", "()I"⟩
abbrev cX6_reads : ByteArray := prog_8_method_34_code
def yX6_reads : MethodName := ⟨RX6, "reads", "()V"⟩
abbrev cX6_operates : ByteArray := prog_8_method_35_code
def yX6_operates : MethodName := ⟨RX6, "operates", "(I)V"⟩
abbrev cX6_calls : ByteArray := prog_8_method_36_code
def yX6_calls : MethodName := ⟨RX6, "calls", "(I)V"⟩
abbrev cX6_returns : ByteArray := prog_8_method_37_code
def yX6_returns : MethodName := ⟨RX6, "returns", "()V"⟩
abbrev cX6_place : ByteArray := prog_8_method_38_code
def yX6_place : MethodName := ⟨RX6, "place", "(IZ)V"⟩
abbrev cX6_prints : ByteArray := prog_8_method_39_code
def yX6_prints : MethodName := ⟨RX6, "prints", "()V"⟩
abbrev cX6_does : ByteArray := prog_8_method_40_code
def yX6_does : MethodName := ⟨RX6, "does", "(II)V"⟩
abbrev cX6_run : ByteArray := prog_8_method_41_code
def yX6_run : MethodName := ⟨RX6, "run", "(I)I"⟩
abbrev cX6_shown : ByteArray := prog_8_method_42_code
def yX6_shown : MethodName := ⟨RX6, "shown", "(I)I"⟩
abbrev cX6_global : ByteArray := prog_8_method_43_code
def yX6_global : MethodName := ⟨RX6, "global", "(I)I"⟩
abbrev cX6_array : ByteArray := prog_8_method_44_code
def yX6_array : MethodName := ⟨RX6, "array", "(II)I"⟩
abbrev cX6_about : ByteArray := prog_8_method_45_code
def yX6_about : MethodName := ⟨RX6, "about", "(I)I"⟩
def RJ0 : String := "java/lang/String"
def TJ0 : u_T := fun k => match k with
  | _ => ("", "", "", false)
def tyJ0 : Nat → FieldType := fun k => match k with
  | _ => .int
abbrev wsJ00 : List Cond := u_ws RJ0 TJ0 0
theorem nmJ0 : ∀ a, a < 0 → ∀ b, b < 0 → a ≠ b → (TJ0 a).2.1 ≠ (TJ0 b).2.1 := by decide +kernel
theorem tyJ0_ok : ∀ k, k < 0 → parseFieldDescriptor (TJ0 k).2.2.1 = some (tyJ0 k) := by decide +kernel
def RL : String := "ShortMillLaw"
abbrev cL_words : ByteArray := method_3_code
def yL_words : MethodName := ⟨RL, "words", "(LShortMill;II[J)I"⟩
abbrev cL_start : ByteArray := method_4_code
def yL_start : MethodName := ⟨RL, "start", "(LShortMill;[J)I"⟩
abbrev cL_key : ByteArray := method_5_code
def yL_key : MethodName := ⟨RL, "key", "(LShortMill;I[J)I"⟩
abbrev cL_run : ByteArray := method_6_code
def yL_run : MethodName := ⟨RL, "run", "(LShortMill;I[J)I"⟩
abbrev cL_shown : ByteArray := method_7_code
def yL_shown : MethodName := ⟨RL, "shown", "(LShortMill;I[J)I"⟩
abbrev cL_global : ByteArray := method_8_code
def yL_global : MethodName := ⟨RL, "global", "(LShortMill;I[J)I"⟩
abbrev cL_array : ByteArray := method_9_code
def yL_array : MethodName := ⟨RL, "array", "(LShortMill;II[J)I"⟩
abbrev cL_law : ByteArray := code
def yL_law : MethodName := ⟨RL, "law", "([I)Z"⟩
abbrev vwCl : List vw_C := [(RX0, TX0, 6), (RX1, TX1, 3), (RX2, TX2, 14), (RX3, TX3, 6), (RX4, TX4, 2), (RX5, TX5, 6), (RX6, TX6, 52)]
end
section
theorem dX0_init_0 : decode cX0_init 0 = .ok (.aload_n 0, 1) := by decide +kernel
theorem dX0_init_1 : decode cX0_init 1 = .ok (.invokespecial 3, 3) := by decide +kernel
theorem dX0_init_4 : decode cX0_init 4 = .ok (.aload_n 0, 1) := by decide +kernel
theorem dX0_init_5 : decode cX0_init 5 = .ok (.sipush 160, 3) := by decide +kernel
theorem dX0_init_8 : decode cX0_init 8 = .ok (.newarray .int, 2) := by decide +kernel
theorem dX0_init_10 : decode cX0_init 10 = .ok (.putfield 9, 3) := by decide +kernel
theorem dX0_init_13 : decode cX0_init 13 = .ok (.aload_n 0, 1) := by decide +kernel
theorem dX0_init_14 : decode cX0_init 14 = .ok (.iconst 0, 1) := by decide +kernel
theorem dX0_init_15 : decode cX0_init 15 = .ok (.putfield 15, 3) := by decide +kernel
theorem dX0_init_18 : decode cX0_init 18 = .ok (.aload_n 0, 1) := by decide +kernel
theorem dX0_init_19 : decode cX0_init 19 = .ok (.iconst 0, 1) := by decide +kernel
theorem dX0_init_20 : decode cX0_init 20 = .ok (.putfield 19, 3) := by decide +kernel
theorem dX0_init_23 : decode cX0_init 23 = .ok (.aload_n 0, 1) := by decide +kernel
theorem dX0_init_24 : decode cX0_init 24 = .ok (.iconst 0, 1) := by decide +kernel
theorem dX0_init_25 : decode cX0_init 25 = .ok (.putfield 22, 3) := by decide +kernel
theorem dX0_init_28 : decode cX0_init 28 = .ok (.aload_n 0, 1) := by decide +kernel
theorem dX0_init_29 : decode cX0_init 29 = .ok (.aload_n 1, 1) := by decide +kernel
theorem dX0_init_30 : decode cX0_init 30 = .ok (.putfield 25, 3) := by decide +kernel
theorem dX0_init_33 : decode cX0_init 33 = .ok (.aload_n 0, 1) := by decide +kernel
theorem dX0_init_34 : decode cX0_init 34 = .ok (.aload_n 2, 1) := by decide +kernel
theorem dX0_init_35 : decode cX0_init 35 = .ok (.putfield 29, 3) := by decide +kernel
theorem dX0_init_38 : decode cX0_init 38 = .ok (.return_, 1) := by decide +kernel
theorem dX0_fault_0 : decode cX0_fault 0 = .ok (.aload_n 0, 1) := by decide +kernel
theorem dX0_fault_1 : decode cX0_fault 1 = .ok (.invokevirtual 33, 3) := by decide +kernel
theorem dX0_fault_4 : decode cX0_fault 4 = .ok (.iconst 0, 1) := by decide +kernel
theorem dX0_fault_5 : decode cX0_fault 5 = .ok (.istore_n 1, 1) := by decide +kernel
theorem dX0_fault_6 : decode cX0_fault 6 = .ok (.iload_n 1, 1) := by decide +kernel
theorem dX0_fault_7 : decode cX0_fault 7 = .ok (.sipush 160, 3) := by decide +kernel
theorem dX0_fault_10 : decode cX0_fault 10 = .ok (.if_icmp .ge 21, 3) := by decide +kernel
theorem dX0_fault_13 : decode cX0_fault 13 = .ok (.aload_n 0, 1) := by decide +kernel
theorem dX0_fault_14 : decode cX0_fault 14 = .ok (.invokevirtual 36, 3) := by decide +kernel
theorem dX0_fault_17 : decode cX0_fault 17 = .ok (.iconst (-1), 1) := by decide +kernel
theorem dX0_fault_18 : decode cX0_fault 18 = .ok (.if_icmp .eq 13, 3) := by decide +kernel
theorem dX0_fault_21 : decode cX0_fault 21 = .ok (.aload_n 0, 1) := by decide +kernel
theorem dX0_fault_22 : decode cX0_fault 22 = .ok (.invokevirtual 42, 3) := by decide +kernel
theorem dX0_fault_25 : decode cX0_fault 25 = .ok (.iinc 1 1, 3) := by decide +kernel
theorem dX0_fault_28 : decode cX0_fault 28 = .ok (.goto (-22), 3) := by decide +kernel
theorem dX0_fault_31 : decode cX0_fault 31 = .ok (.aload_n 0, 1) := by decide +kernel
theorem dX0_fault_32 : decode cX0_fault 32 = .ok (.invokevirtual 45, 3) := by decide +kernel
theorem dX0_fault_35 : decode cX0_fault 35 = .ok (.aload_n 0, 1) := by decide +kernel
theorem dX0_fault_36 : decode cX0_fault 36 = .ok (.aload_n 0, 1) := by decide +kernel
theorem dX0_fault_37 : decode cX0_fault 37 = .ok (.getfield 25, 3) := by decide +kernel
theorem dX0_fault_40 : decode cX0_fault 40 = .ok (.invokevirtual 48, 3) := by decide +kernel
theorem dX0_fault_43 : decode cX0_fault 43 = .ok (.putfield 15, 3) := by decide +kernel
theorem dX0_fault_46 : decode cX0_fault 46 = .ok (.aload_n 0, 1) := by decide +kernel
theorem dX0_fault_47 : decode cX0_fault 47 = .ok (.getfield 29, 3) := by decide +kernel
theorem dX0_fault_50 : decode cX0_fault 50 = .ok (.iconst 0, 1) := by decide +kernel
theorem dX0_fault_51 : decode cX0_fault 51 = .ok (.invokevirtual 51, 3) := by decide +kernel
theorem dX0_fault_54 : decode cX0_fault 54 = .ok (.ifCond .eq 9, 3) := by decide +kernel
theorem dX0_fault_57 : decode cX0_fault 57 = .ok (.aload_n 0, 1) := by decide +kernel
theorem dX0_fault_58 : decode cX0_fault 58 = .ok (.bipush 6, 2) := by decide +kernel
theorem dX0_fault_60 : decode cX0_fault 60 = .ok (.invokevirtual 57, 3) := by decide +kernel
theorem dX0_fault_63 : decode cX0_fault 63 = .ok (.sipush (-1000), 3) := by decide +kernel
theorem dX0_fault_66 : decode cX0_fault 66 = .ok (.aload_n 0, 1) := by decide +kernel
theorem dX0_fault_67 : decode cX0_fault 67 = .ok (.getfield 19, 3) := by decide +kernel
theorem dX0_fault_70 : decode cX0_fault 70 = .ok (.imul, 1) := by decide +kernel
theorem dX0_fault_71 : decode cX0_fault 71 = .ok (.aload_n 0, 1) := by decide +kernel
theorem dX0_fault_72 : decode cX0_fault 72 = .ok (.getfield 22, 3) := by decide +kernel
theorem dX0_fault_75 : decode cX0_fault 75 = .ok (.isub, 1) := by decide +kernel
theorem dX0_fault_76 : decode cX0_fault 76 = .ok (.ireturn, 1) := by decide +kernel
theorem dX0_clear_0 : decode cX0_clear 0 = .ok (.aload_n 0, 1) := by decide +kernel
theorem dX0_clear_1 : decode cX0_clear 1 = .ok (.getfield 29, 3) := by decide +kernel
theorem dX0_clear_4 : decode cX0_clear 4 = .ok (.invokevirtual 61, 3) := by decide +kernel
theorem dX0_clear_7 : decode cX0_clear 7 = .ok (.iconst 0, 1) := by decide +kernel
theorem dX0_clear_8 : decode cX0_clear 8 = .ok (.istore_n 1, 1) := by decide +kernel
theorem dX0_clear_9 : decode cX0_clear 9 = .ok (.iload_n 1, 1) := by decide +kernel
theorem dX0_clear_10 : decode cX0_clear 10 = .ok (.sipush 160, 3) := by decide +kernel
theorem dX0_clear_13 : decode cX0_clear 13 = .ok (.if_icmp .ge 16, 3) := by decide +kernel
theorem dX0_clear_16 : decode cX0_clear 16 = .ok (.aload_n 0, 1) := by decide +kernel
theorem dX0_clear_17 : decode cX0_clear 17 = .ok (.getfield 9, 3) := by decide +kernel
theorem dX0_clear_20 : decode cX0_clear 20 = .ok (.iload_n 1, 1) := by decide +kernel
theorem dX0_clear_21 : decode cX0_clear 21 = .ok (.iconst (-1), 1) := by decide +kernel
theorem dX0_clear_22 : decode cX0_clear 22 = .ok (.iastore, 1) := by decide +kernel
theorem dX0_clear_23 : decode cX0_clear 23 = .ok (.iinc 1 1, 3) := by decide +kernel
theorem dX0_clear_26 : decode cX0_clear 26 = .ok (.goto (-17), 3) := by decide +kernel
theorem dX0_clear_29 : decode cX0_clear 29 = .ok (.aload_n 0, 1) := by decide +kernel
theorem dX0_clear_30 : decode cX0_clear 30 = .ok (.iconst 0, 1) := by decide +kernel
theorem dX0_clear_31 : decode cX0_clear 31 = .ok (.putfield 15, 3) := by decide +kernel
theorem dX0_clear_34 : decode cX0_clear 34 = .ok (.aload_n 0, 1) := by decide +kernel
theorem dX0_clear_35 : decode cX0_clear 35 = .ok (.iconst 0, 1) := by decide +kernel
theorem dX0_clear_36 : decode cX0_clear 36 = .ok (.putfield 19, 3) := by decide +kernel
theorem dX0_clear_39 : decode cX0_clear 39 = .ok (.aload_n 0, 1) := by decide +kernel
theorem dX0_clear_40 : decode cX0_clear 40 = .ok (.iconst 0, 1) := by decide +kernel
theorem dX0_clear_41 : decode cX0_clear 41 = .ok (.putfield 22, 3) := by decide +kernel
theorem dX0_clear_44 : decode cX0_clear 44 = .ok (.return_, 1) := by decide +kernel
theorem dX0_now_0 : decode cX0_now 0 = .ok (.aload_n 0, 1) := by decide +kernel
theorem dX0_now_1 : decode cX0_now 1 = .ok (.getfield 25, 3) := by decide +kernel
theorem dX0_now_4 : decode cX0_now 4 = .ok (.aload_n 0, 1) := by decide +kernel
theorem dX0_now_5 : decode cX0_now 5 = .ok (.getfield 15, 3) := by decide +kernel
theorem dX0_now_8 : decode cX0_now 8 = .ok (.invokevirtual 62, 3) := by decide +kernel
theorem dX0_now_11 : decode cX0_now 11 = .ok (.ireturn, 1) := by decide +kernel
theorem dX0_next_0 : decode cX0_next 0 = .ok (.aload_n 0, 1) := by decide +kernel
theorem dX0_next_1 : decode cX0_next 1 = .ok (.dup, 1) := by decide +kernel
theorem dX0_next_2 : decode cX0_next 2 = .ok (.getfield 15, 3) := by decide +kernel
theorem dX0_next_5 : decode cX0_next 5 = .ok (.iconst 1, 1) := by decide +kernel
theorem dX0_next_6 : decode cX0_next 6 = .ok (.iadd, 1) := by decide +kernel
theorem dX0_next_7 : decode cX0_next 7 = .ok (.putfield 15, 3) := by decide +kernel
theorem dX0_next_10 : decode cX0_next 10 = .ok (.return_, 1) := by decide +kernel
theorem dX0_expect_0 : decode cX0_expect 0 = .ok (.aload_n 0, 1) := by decide +kernel
theorem dX0_expect_1 : decode cX0_expect 1 = .ok (.getfield 25, 3) := by decide +kernel
theorem dX0_expect_4 : decode cX0_expect 4 = .ok (.aload_n 0, 1) := by decide +kernel
theorem dX0_expect_5 : decode cX0_expect 5 = .ok (.getfield 15, 3) := by decide +kernel
theorem dX0_expect_8 : decode cX0_expect 8 = .ok (.invokevirtual 62, 3) := by decide +kernel
theorem dX0_expect_11 : decode cX0_expect 11 = .ok (.iload_n 1, 1) := by decide +kernel
theorem dX0_expect_12 : decode cX0_expect 12 = .ok (.if_icmp .ne 16, 3) := by decide +kernel
theorem dX0_expect_15 : decode cX0_expect 15 = .ok (.aload_n 0, 1) := by decide +kernel
theorem dX0_expect_16 : decode cX0_expect 16 = .ok (.dup, 1) := by decide +kernel
theorem dX0_expect_17 : decode cX0_expect 17 = .ok (.getfield 15, 3) := by decide +kernel
theorem dX0_expect_20 : decode cX0_expect 20 = .ok (.iconst 1, 1) := by decide +kernel
theorem dX0_expect_21 : decode cX0_expect 21 = .ok (.iadd, 1) := by decide +kernel
theorem dX0_expect_22 : decode cX0_expect 22 = .ok (.putfield 15, 3) := by decide +kernel
theorem dX0_expect_25 : decode cX0_expect 25 = .ok (.goto 8, 3) := by decide +kernel
theorem dX0_expect_28 : decode cX0_expect 28 = .ok (.aload_n 0, 1) := by decide +kernel
theorem dX0_expect_29 : decode cX0_expect 29 = .ok (.iconst 1, 1) := by decide +kernel
theorem dX0_expect_30 : decode cX0_expect 30 = .ok (.invokevirtual 57, 3) := by decide +kernel
theorem dX0_expect_33 : decode cX0_expect 33 = .ok (.return_, 1) := by decide +kernel
theorem dX0_fail_0 : decode cX0_fail 0 = .ok (.aload_n 0, 1) := by decide +kernel
theorem dX0_fail_1 : decode cX0_fail 1 = .ok (.getfield 19, 3) := by decide +kernel
theorem dX0_fail_4 : decode cX0_fail 4 = .ok (.ifCond .ne 16, 3) := by decide +kernel
theorem dX0_fail_7 : decode cX0_fail 7 = .ok (.aload_n 0, 1) := by decide +kernel
theorem dX0_fail_8 : decode cX0_fail 8 = .ok (.iload_n 1, 1) := by decide +kernel
theorem dX0_fail_9 : decode cX0_fail 9 = .ok (.putfield 19, 3) := by decide +kernel
theorem dX0_fail_12 : decode cX0_fail 12 = .ok (.aload_n 0, 1) := by decide +kernel
theorem dX0_fail_13 : decode cX0_fail 13 = .ok (.aload_n 0, 1) := by decide +kernel
theorem dX0_fail_14 : decode cX0_fail 14 = .ok (.getfield 15, 3) := by decide +kernel
theorem dX0_fail_17 : decode cX0_fail 17 = .ok (.putfield 22, 3) := by decide +kernel
theorem dX0_fail_20 : decode cX0_fail 20 = .ok (.aload_n 0, 1) := by decide +kernel
theorem dX0_fail_21 : decode cX0_fail 21 = .ok (.sipush 160, 3) := by decide +kernel
theorem dX0_fail_24 : decode cX0_fail 24 = .ok (.putfield 15, 3) := by decide +kernel
theorem dX0_fail_27 : decode cX0_fail 27 = .ok (.return_, 1) := by decide +kernel
theorem dX0_readFunction_0 : decode cX0_readFunction 0 = .ok (.aload_n 0, 1) := by decide +kernel
theorem dX0_readFunction_1 : decode cX0_readFunction 1 = .ok (.bipush 23, 2) := by decide +kernel
theorem dX0_readFunction_3 : decode cX0_readFunction 3 = .ok (.invokevirtual 65, 3) := by decide +kernel
theorem dX0_readFunction_6 : decode cX0_readFunction 6 = .ok (.aload_n 0, 1) := by decide +kernel
theorem dX0_readFunction_7 : decode cX0_readFunction 7 = .ok (.invokevirtual 36, 3) := by decide +kernel
theorem dX0_readFunction_10 : decode cX0_readFunction 10 = .ok (.bipush 52, 2) := by decide +kernel
theorem dX0_readFunction_12 : decode cX0_readFunction 12 = .ok (.isub, 1) := by decide +kernel
theorem dX0_readFunction_13 : decode cX0_readFunction 13 = .ok (.istore_n 1, 1) := by decide +kernel
theorem dX0_readFunction_14 : decode cX0_readFunction 14 = .ok (.iload_n 1, 1) := by decide +kernel
theorem dX0_readFunction_15 : decode cX0_readFunction 15 = .ok (.ifCond .lt 9, 3) := by decide +kernel
theorem dX0_readFunction_18 : decode cX0_readFunction 18 = .ok (.iload_n 1, 1) := by decide +kernel
theorem dX0_readFunction_19 : decode cX0_readFunction 19 = .ok (.bipush 6, 2) := by decide +kernel
theorem dX0_readFunction_21 : decode cX0_readFunction 21 = .ok (.if_icmp .lt 9, 3) := by decide +kernel
theorem dX0_readFunction_24 : decode cX0_readFunction 24 = .ok (.aload_n 0, 1) := by decide +kernel
theorem dX0_readFunction_25 : decode cX0_readFunction 25 = .ok (.iconst 1, 1) := by decide +kernel
theorem dX0_readFunction_26 : decode cX0_readFunction 26 = .ok (.invokevirtual 57, 3) := by decide +kernel
theorem dX0_readFunction_29 : decode cX0_readFunction 29 = .ok (.return_, 1) := by decide +kernel
theorem dX0_readFunction_30 : decode cX0_readFunction 30 = .ok (.aload_n 0, 1) := by decide +kernel
theorem dX0_readFunction_31 : decode cX0_readFunction 31 = .ok (.getfield 29, 3) := by decide +kernel
theorem dX0_readFunction_34 : decode cX0_readFunction 34 = .ok (.iload_n 1, 1) := by decide +kernel
theorem dX0_readFunction_35 : decode cX0_readFunction 35 = .ok (.invokevirtual 51, 3) := by decide +kernel
theorem dX0_readFunction_38 : decode cX0_readFunction 38 = .ok (.iconst (-1), 1) := by decide +kernel
theorem dX0_readFunction_39 : decode cX0_readFunction 39 = .ok (.if_icmp .eq 9, 3) := by decide +kernel
theorem dX0_readFunction_42 : decode cX0_readFunction 42 = .ok (.aload_n 0, 1) := by decide +kernel
theorem dX0_readFunction_43 : decode cX0_readFunction 43 = .ok (.iconst 2, 1) := by decide +kernel
theorem dX0_readFunction_44 : decode cX0_readFunction 44 = .ok (.invokevirtual 57, 3) := by decide +kernel
theorem dX0_readFunction_47 : decode cX0_readFunction 47 = .ok (.return_, 1) := by decide +kernel
theorem dX0_readFunction_48 : decode cX0_readFunction 48 = .ok (.aload_n 0, 1) := by decide +kernel
theorem dX0_readFunction_49 : decode cX0_readFunction 49 = .ok (.invokevirtual 68, 3) := by decide +kernel
theorem dX0_readFunction_52 : decode cX0_readFunction 52 = .ok (.aload_n 0, 1) := by decide +kernel
theorem dX0_readFunction_53 : decode cX0_readFunction 53 = .ok (.invokevirtual 36, 3) := by decide +kernel
theorem dX0_readFunction_56 : decode cX0_readFunction 56 = .ok (.bipush 64, 2) := by decide +kernel
theorem dX0_readFunction_58 : decode cX0_readFunction 58 = .ok (.isub, 1) := by decide +kernel
theorem dX0_readFunction_59 : decode cX0_readFunction 59 = .ok (.istore_n 2, 1) := by decide +kernel
theorem dX0_readFunction_60 : decode cX0_readFunction 60 = .ok (.iload_n 2, 1) := by decide +kernel
theorem dX0_readFunction_61 : decode cX0_readFunction 61 = .ok (.ifCond .lt 8, 3) := by decide +kernel
theorem dX0_readFunction_64 : decode cX0_readFunction 64 = .ok (.iload_n 2, 1) := by decide +kernel
theorem dX0_readFunction_65 : decode cX0_readFunction 65 = .ok (.iconst 3, 1) := by decide +kernel
theorem dX0_readFunction_66 : decode cX0_readFunction 66 = .ok (.if_icmp .le 9, 3) := by decide +kernel
theorem dX0_readFunction_69 : decode cX0_readFunction 69 = .ok (.aload_n 0, 1) := by decide +kernel
theorem dX0_readFunction_70 : decode cX0_readFunction 70 = .ok (.iconst 1, 1) := by decide +kernel
theorem dX0_readFunction_71 : decode cX0_readFunction 71 = .ok (.invokevirtual 57, 3) := by decide +kernel
theorem dX0_readFunction_74 : decode cX0_readFunction 74 = .ok (.return_, 1) := by decide +kernel
theorem dX0_readFunction_75 : decode cX0_readFunction 75 = .ok (.aload_n 0, 1) := by decide +kernel
theorem dX0_readFunction_76 : decode cX0_readFunction 76 = .ok (.invokevirtual 68, 3) := by decide +kernel
theorem dX0_readFunction_79 : decode cX0_readFunction 79 = .ok (.aload_n 0, 1) := by decide +kernel
theorem dX0_readFunction_80 : decode cX0_readFunction 80 = .ok (.getfield 29, 3) := by decide +kernel
theorem dX0_readFunction_83 : decode cX0_readFunction 83 = .ok (.iload_n 1, 1) := by decide +kernel
theorem dX0_readFunction_84 : decode cX0_readFunction 84 = .ok (.iload_n 2, 1) := by decide +kernel
theorem dX0_readFunction_85 : decode cX0_readFunction 85 = .ok (.invokevirtual 71, 3) := by decide +kernel
theorem dX0_readFunction_88 : decode cX0_readFunction 88 = .ok (.aload_n 0, 1) := by decide +kernel
theorem dX0_readFunction_89 : decode cX0_readFunction 89 = .ok (.iconst 0, 1) := by decide +kernel
theorem dX0_readFunction_90 : decode cX0_readFunction 90 = .ok (.invokevirtual 75, 3) := by decide +kernel
theorem dX0_readFunction_93 : decode cX0_readFunction 93 = .ok (.aload_n 0, 1) := by decide +kernel
theorem dX0_readFunction_94 : decode cX0_readFunction 94 = .ok (.getfield 29, 3) := by decide +kernel
theorem dX0_readFunction_97 : decode cX0_readFunction 97 = .ok (.bipush 33, 2) := by decide +kernel
theorem dX0_readFunction_99 : decode cX0_readFunction 99 = .ok (.iconst 0, 1) := by decide +kernel
theorem dX0_readFunction_100 : decode cX0_readFunction 100 = .ok (.invokevirtual 78, 3) := by decide +kernel
theorem dX0_readFunction_103 : decode cX0_readFunction 103 = .ok (.pop, 1) := by decide +kernel
theorem dX0_readFunction_104 : decode cX0_readFunction 104 = .ok (.aload_n 0, 1) := by decide +kernel
theorem dX0_readFunction_105 : decode cX0_readFunction 105 = .ok (.getfield 29, 3) := by decide +kernel
theorem dX0_readFunction_108 : decode cX0_readFunction 108 = .ok (.iconst 0, 1) := by decide +kernel
theorem dX0_readFunction_109 : decode cX0_readFunction 109 = .ok (.iconst 0, 1) := by decide +kernel
theorem dX0_readFunction_110 : decode cX0_readFunction 110 = .ok (.invokevirtual 78, 3) := by decide +kernel
theorem dX0_readFunction_113 : decode cX0_readFunction 113 = .ok (.pop, 1) := by decide +kernel
theorem dX0_readFunction_114 : decode cX0_readFunction 114 = .ok (.return_, 1) := by decide +kernel
theorem dX0_readBlock_0 : decode cX0_readBlock 0 = .ok (.iload_n 1, 1) := by decide +kernel
theorem dX0_readBlock_1 : decode cX0_readBlock 1 = .ok (.iconst 3, 1) := by decide +kernel
theorem dX0_readBlock_2 : decode cX0_readBlock 2 = .ok (.if_icmp .le 9, 3) := by decide +kernel
theorem dX0_readBlock_5 : decode cX0_readBlock 5 = .ok (.aload_n 0, 1) := by decide +kernel
theorem dX0_readBlock_6 : decode cX0_readBlock 6 = .ok (.iconst 3, 1) := by decide +kernel
theorem dX0_readBlock_7 : decode cX0_readBlock 7 = .ok (.invokevirtual 57, 3) := by decide +kernel
theorem dX0_readBlock_10 : decode cX0_readBlock 10 = .ok (.return_, 1) := by decide +kernel
theorem dX0_readBlock_11 : decode cX0_readBlock 11 = .ok (.aload_n 0, 1) := by decide +kernel
theorem dX0_readBlock_12 : decode cX0_readBlock 12 = .ok (.bipush 8, 2) := by decide +kernel
theorem dX0_readBlock_14 : decode cX0_readBlock 14 = .ok (.invokevirtual 65, 3) := by decide +kernel
theorem dX0_readBlock_17 : decode cX0_readBlock 17 = .ok (.iconst 0, 1) := by decide +kernel
theorem dX0_readBlock_18 : decode cX0_readBlock 18 = .ok (.istore_n 2, 1) := by decide +kernel
theorem dX0_readBlock_19 : decode cX0_readBlock 19 = .ok (.iload_n 2, 1) := by decide +kernel
theorem dX0_readBlock_20 : decode cX0_readBlock 20 = .ok (.sipush 160, 3) := by decide +kernel
theorem dX0_readBlock_23 : decode cX0_readBlock 23 = .ok (.if_icmp .ge 30, 3) := by decide +kernel
theorem dX0_readBlock_26 : decode cX0_readBlock 26 = .ok (.aload_n 0, 1) := by decide +kernel
theorem dX0_readBlock_27 : decode cX0_readBlock 27 = .ok (.getfield 19, 3) := by decide +kernel
theorem dX0_readBlock_30 : decode cX0_readBlock 30 = .ok (.ifCond .ne 23, 3) := by decide +kernel
theorem dX0_readBlock_33 : decode cX0_readBlock 33 = .ok (.aload_n 0, 1) := by decide +kernel
theorem dX0_readBlock_34 : decode cX0_readBlock 34 = .ok (.invokevirtual 36, 3) := by decide +kernel
theorem dX0_readBlock_37 : decode cX0_readBlock 37 = .ok (.bipush 9, 2) := by decide +kernel
theorem dX0_readBlock_39 : decode cX0_readBlock 39 = .ok (.if_icmp .eq 14, 3) := by decide +kernel
theorem dX0_readBlock_42 : decode cX0_readBlock 42 = .ok (.aload_n 0, 1) := by decide +kernel
theorem dX0_readBlock_43 : decode cX0_readBlock 43 = .ok (.iload_n 1, 1) := by decide +kernel
theorem dX0_readBlock_44 : decode cX0_readBlock 44 = .ok (.invokevirtual 82, 3) := by decide +kernel
theorem dX0_readBlock_47 : decode cX0_readBlock 47 = .ok (.iinc 2 1, 3) := by decide +kernel
theorem dX0_readBlock_50 : decode cX0_readBlock 50 = .ok (.goto (-31), 3) := by decide +kernel
theorem dX0_readBlock_53 : decode cX0_readBlock 53 = .ok (.aload_n 0, 1) := by decide +kernel
theorem dX0_readBlock_54 : decode cX0_readBlock 54 = .ok (.bipush 9, 2) := by decide +kernel
theorem dX0_readBlock_56 : decode cX0_readBlock 56 = .ok (.invokevirtual 65, 3) := by decide +kernel
theorem dX0_readBlock_59 : decode cX0_readBlock 59 = .ok (.return_, 1) := by decide +kernel
theorem dX0_readStatement_0 : decode cX0_readStatement 0 = .ok (.aload_n 0, 1) := by decide +kernel
theorem dX0_readStatement_1 : decode cX0_readStatement 1 = .ok (.getfield 29, 3) := by decide +kernel
theorem dX0_readStatement_4 : decode cX0_readStatement 4 = .ok (.bipush 32, 2) := by decide +kernel
theorem dX0_readStatement_6 : decode cX0_readStatement 6 = .ok (.iconst 0, 1) := by decide +kernel
theorem dX0_readStatement_7 : decode cX0_readStatement 7 = .ok (.invokevirtual 78, 3) := by decide +kernel
theorem dX0_readStatement_10 : decode cX0_readStatement 10 = .ok (.istore_n 2, 1) := by decide +kernel
theorem dX0_readStatement_11 : decode cX0_readStatement 11 = .ok (.aload_n 0, 1) := by decide +kernel
theorem dX0_readStatement_12 : decode cX0_readStatement 12 = .ok (.invokevirtual 36, 3) := by decide +kernel
theorem dX0_readStatement_15 : decode cX0_readStatement 15 = .ok (.istore_n 3, 1) := by decide +kernel
theorem dX0_readStatement_16 : decode cX0_readStatement 16 = .ok (.iload_n 3, 1) := by decide +kernel
theorem dX0_readStatement_17 : decode cX0_readStatement 17 = .ok (.ifCond .ne 11, 3) := by decide +kernel
theorem dX0_readStatement_20 : decode cX0_readStatement 20 = .ok (.aload_n 0, 1) := by decide +kernel
theorem dX0_readStatement_21 : decode cX0_readStatement 21 = .ok (.iload_n 1, 1) := by decide +kernel
theorem dX0_readStatement_22 : decode cX0_readStatement 22 = .ok (.invokevirtual 85, 3) := by decide +kernel
theorem dX0_readStatement_25 : decode cX0_readStatement 25 = .ok (.goto 85, 3) := by decide +kernel
theorem dX0_readStatement_28 : decode cX0_readStatement 28 = .ok (.iload_n 3, 1) := by decide +kernel
theorem dX0_readStatement_29 : decode cX0_readStatement 29 = .ok (.iconst 2, 1) := by decide +kernel
theorem dX0_readStatement_30 : decode cX0_readStatement 30 = .ok (.if_icmp .ne 12, 3) := by decide +kernel
theorem dX0_readStatement_33 : decode cX0_readStatement 33 = .ok (.aload_n 0, 1) := by decide +kernel
theorem dX0_readStatement_34 : decode cX0_readStatement 34 = .ok (.iload_n 1, 1) := by decide +kernel
theorem dX0_readStatement_35 : decode cX0_readStatement 35 = .ok (.iload_n 2, 1) := by decide +kernel
theorem dX0_readStatement_36 : decode cX0_readStatement 36 = .ok (.invokevirtual 88, 3) := by decide +kernel
theorem dX0_readStatement_39 : decode cX0_readStatement 39 = .ok (.goto 71, 3) := by decide +kernel
theorem dX0_readStatement_42 : decode cX0_readStatement 42 = .ok (.iload_n 3, 1) := by decide +kernel
theorem dX0_readStatement_43 : decode cX0_readStatement 43 = .ok (.iconst 3, 1) := by decide +kernel
theorem dX0_readStatement_44 : decode cX0_readStatement 44 = .ok (.if_icmp .ne 11, 3) := by decide +kernel
theorem dX0_readStatement_47 : decode cX0_readStatement 47 = .ok (.aload_n 0, 1) := by decide +kernel
theorem dX0_readStatement_48 : decode cX0_readStatement 48 = .ok (.iconst 0, 1) := by decide +kernel
theorem dX0_readStatement_49 : decode cX0_readStatement 49 = .ok (.invokevirtual 91, 3) := by decide +kernel
theorem dX0_readStatement_52 : decode cX0_readStatement 52 = .ok (.goto 58, 3) := by decide +kernel
theorem dX0_readStatement_55 : decode cX0_readStatement 55 = .ok (.iload_n 3, 1) := by decide +kernel
theorem dX0_readStatement_56 : decode cX0_readStatement 56 = .ok (.iconst 4, 1) := by decide +kernel
theorem dX0_readStatement_57 : decode cX0_readStatement 57 = .ok (.if_icmp .ne 12, 3) := by decide +kernel
theorem dX0_readStatement_60 : decode cX0_readStatement 60 = .ok (.aload_n 0, 1) := by decide +kernel
theorem dX0_readStatement_61 : decode cX0_readStatement 61 = .ok (.bipush 44, 2) := by decide +kernel
theorem dX0_readStatement_63 : decode cX0_readStatement 63 = .ok (.invokevirtual 91, 3) := by decide +kernel
theorem dX0_readStatement_66 : decode cX0_readStatement 66 = .ok (.goto 44, 3) := by decide +kernel
theorem dX0_readStatement_69 : decode cX0_readStatement 69 = .ok (.iload_n 3, 1) := by decide +kernel
theorem dX0_readStatement_70 : decode cX0_readStatement 70 = .ok (.bipush 52, 2) := by decide +kernel
theorem dX0_readStatement_72 : decode cX0_readStatement 72 = .ok (.bipush 6, 2) := by decide +kernel
theorem dX0_readStatement_74 : decode cX0_readStatement 74 = .ok (.invokestatic 94, 3) := by decide +kernel
theorem dX0_readStatement_77 : decode cX0_readStatement 77 = .ok (.ifCond .eq 28, 3) := by decide +kernel
theorem dX0_readStatement_80 : decode cX0_readStatement 80 = .ok (.aload_n 0, 1) := by decide +kernel
theorem dX0_readStatement_81 : decode cX0_readStatement 81 = .ok (.iconst 0, 1) := by decide +kernel
theorem dX0_readStatement_82 : decode cX0_readStatement 82 = .ok (.invokevirtual 98, 3) := by decide +kernel
theorem dX0_readStatement_85 : decode cX0_readStatement 85 = .ok (.aload_n 0, 1) := by decide +kernel
theorem dX0_readStatement_86 : decode cX0_readStatement 86 = .ok (.getfield 29, 3) := by decide +kernel
theorem dX0_readStatement_89 : decode cX0_readStatement 89 = .ok (.bipush 43, 2) := by decide +kernel
theorem dX0_readStatement_91 : decode cX0_readStatement 91 = .ok (.iconst 0, 1) := by decide +kernel
theorem dX0_readStatement_92 : decode cX0_readStatement 92 = .ok (.invokevirtual 78, 3) := by decide +kernel
theorem dX0_readStatement_95 : decode cX0_readStatement 95 = .ok (.pop, 1) := by decide +kernel
theorem dX0_readStatement_96 : decode cX0_readStatement 96 = .ok (.aload_n 0, 1) := by decide +kernel
theorem dX0_readStatement_97 : decode cX0_readStatement 97 = .ok (.bipush 10, 2) := by decide +kernel
theorem dX0_readStatement_99 : decode cX0_readStatement 99 = .ok (.invokevirtual 65, 3) := by decide +kernel
theorem dX0_readStatement_102 : decode cX0_readStatement 102 = .ok (.goto 8, 3) := by decide +kernel
theorem dX0_readStatement_105 : decode cX0_readStatement 105 = .ok (.aload_n 0, 1) := by decide +kernel
theorem dX0_readStatement_106 : decode cX0_readStatement 106 = .ok (.iload_n 3, 1) := by decide +kernel
theorem dX0_readStatement_107 : decode cX0_readStatement 107 = .ok (.invokevirtual 101, 3) := by decide +kernel
theorem dX0_readStatement_110 : decode cX0_readStatement 110 = .ok (.return_, 1) := by decide +kernel
theorem dX0_readIf_0 : decode cX0_readIf 0 = .ok (.aload_n 0, 1) := by decide +kernel
theorem dX0_readIf_1 : decode cX0_readIf 1 = .ok (.invokevirtual 68, 3) := by decide +kernel
theorem dX0_readIf_4 : decode cX0_readIf 4 = .ok (.aload_n 0, 1) := by decide +kernel
theorem dX0_readIf_5 : decode cX0_readIf 5 = .ok (.invokevirtual 104, 3) := by decide +kernel
theorem dX0_readIf_8 : decode cX0_readIf 8 = .ok (.aload_n 0, 1) := by decide +kernel
theorem dX0_readIf_9 : decode cX0_readIf 9 = .ok (.getfield 29, 3) := by decide +kernel
theorem dX0_readIf_12 : decode cX0_readIf 12 = .ok (.bipush 46, 2) := by decide +kernel
theorem dX0_readIf_14 : decode cX0_readIf 14 = .ok (.iconst 0, 1) := by decide +kernel
theorem dX0_readIf_15 : decode cX0_readIf 15 = .ok (.invokevirtual 78, 3) := by decide +kernel
theorem dX0_readIf_18 : decode cX0_readIf 18 = .ok (.istore_n 2, 1) := by decide +kernel
theorem dX0_readIf_19 : decode cX0_readIf 19 = .ok (.aload_n 0, 1) := by decide +kernel
theorem dX0_readIf_20 : decode cX0_readIf 20 = .ok (.iload_n 1, 1) := by decide +kernel
theorem dX0_readIf_21 : decode cX0_readIf 21 = .ok (.iconst 1, 1) := by decide +kernel
theorem dX0_readIf_22 : decode cX0_readIf 22 = .ok (.iadd, 1) := by decide +kernel
theorem dX0_readIf_23 : decode cX0_readIf 23 = .ok (.invokevirtual 75, 3) := by decide +kernel
theorem dX0_readIf_26 : decode cX0_readIf 26 = .ok (.aload_n 0, 1) := by decide +kernel
theorem dX0_readIf_27 : decode cX0_readIf 27 = .ok (.invokevirtual 36, 3) := by decide +kernel
theorem dX0_readIf_30 : decode cX0_readIf 30 = .ok (.iconst 1, 1) := by decide +kernel
theorem dX0_readIf_31 : decode cX0_readIf 31 = .ok (.if_icmp .ne 44, 3) := by decide +kernel
theorem dX0_readIf_34 : decode cX0_readIf 34 = .ok (.aload_n 0, 1) := by decide +kernel
theorem dX0_readIf_35 : decode cX0_readIf 35 = .ok (.invokevirtual 68, 3) := by decide +kernel
theorem dX0_readIf_38 : decode cX0_readIf 38 = .ok (.aload_n 0, 1) := by decide +kernel
theorem dX0_readIf_39 : decode cX0_readIf 39 = .ok (.getfield 29, 3) := by decide +kernel
theorem dX0_readIf_42 : decode cX0_readIf 42 = .ok (.bipush 45, 2) := by decide +kernel
theorem dX0_readIf_44 : decode cX0_readIf 44 = .ok (.iconst 0, 1) := by decide +kernel
theorem dX0_readIf_45 : decode cX0_readIf 45 = .ok (.invokevirtual 78, 3) := by decide +kernel
theorem dX0_readIf_48 : decode cX0_readIf 48 = .ok (.istore_n 3, 1) := by decide +kernel
theorem dX0_readIf_49 : decode cX0_readIf 49 = .ok (.aload_n 0, 1) := by decide +kernel
theorem dX0_readIf_50 : decode cX0_readIf 50 = .ok (.getfield 29, 3) := by decide +kernel
theorem dX0_readIf_53 : decode cX0_readIf 53 = .ok (.iload_n 2, 1) := by decide +kernel
theorem dX0_readIf_54 : decode cX0_readIf 54 = .ok (.invokevirtual 107, 3) := by decide +kernel
theorem dX0_readIf_57 : decode cX0_readIf 57 = .ok (.aload_n 0, 1) := by decide +kernel
theorem dX0_readIf_58 : decode cX0_readIf 58 = .ok (.iload_n 1, 1) := by decide +kernel
theorem dX0_readIf_59 : decode cX0_readIf 59 = .ok (.iconst 1, 1) := by decide +kernel
theorem dX0_readIf_60 : decode cX0_readIf 60 = .ok (.iadd, 1) := by decide +kernel
theorem dX0_readIf_61 : decode cX0_readIf 61 = .ok (.invokevirtual 75, 3) := by decide +kernel
theorem dX0_readIf_64 : decode cX0_readIf 64 = .ok (.aload_n 0, 1) := by decide +kernel
theorem dX0_readIf_65 : decode cX0_readIf 65 = .ok (.getfield 29, 3) := by decide +kernel
theorem dX0_readIf_68 : decode cX0_readIf 68 = .ok (.iload_n 3, 1) := by decide +kernel
theorem dX0_readIf_69 : decode cX0_readIf 69 = .ok (.invokevirtual 107, 3) := by decide +kernel
theorem dX0_readIf_72 : decode cX0_readIf 72 = .ok (.goto 11, 3) := by decide +kernel
theorem dX0_readIf_75 : decode cX0_readIf 75 = .ok (.aload_n 0, 1) := by decide +kernel
theorem dX0_readIf_76 : decode cX0_readIf 76 = .ok (.getfield 29, 3) := by decide +kernel
theorem dX0_readIf_79 : decode cX0_readIf 79 = .ok (.iload_n 2, 1) := by decide +kernel
theorem dX0_readIf_80 : decode cX0_readIf 80 = .ok (.invokevirtual 107, 3) := by decide +kernel
theorem dX0_readIf_83 : decode cX0_readIf 83 = .ok (.return_, 1) := by decide +kernel
theorem dX0_readWhile_0 : decode cX0_readWhile 0 = .ok (.aload_n 0, 1) := by decide +kernel
theorem dX0_readWhile_1 : decode cX0_readWhile 1 = .ok (.invokevirtual 68, 3) := by decide +kernel
theorem dX0_readWhile_4 : decode cX0_readWhile 4 = .ok (.aload_n 0, 1) := by decide +kernel
theorem dX0_readWhile_5 : decode cX0_readWhile 5 = .ok (.invokevirtual 104, 3) := by decide +kernel
theorem dX0_readWhile_8 : decode cX0_readWhile 8 = .ok (.aload_n 0, 1) := by decide +kernel
theorem dX0_readWhile_9 : decode cX0_readWhile 9 = .ok (.getfield 29, 3) := by decide +kernel
theorem dX0_readWhile_12 : decode cX0_readWhile 12 = .ok (.bipush 46, 2) := by decide +kernel
theorem dX0_readWhile_14 : decode cX0_readWhile 14 = .ok (.iconst 0, 1) := by decide +kernel
theorem dX0_readWhile_15 : decode cX0_readWhile 15 = .ok (.invokevirtual 78, 3) := by decide +kernel
theorem dX0_readWhile_18 : decode cX0_readWhile 18 = .ok (.istore_n 3, 1) := by decide +kernel
theorem dX0_readWhile_19 : decode cX0_readWhile 19 = .ok (.aload_n 0, 1) := by decide +kernel
theorem dX0_readWhile_20 : decode cX0_readWhile 20 = .ok (.iload_n 1, 1) := by decide +kernel
theorem dX0_readWhile_21 : decode cX0_readWhile 21 = .ok (.iconst 1, 1) := by decide +kernel
theorem dX0_readWhile_22 : decode cX0_readWhile 22 = .ok (.iadd, 1) := by decide +kernel
theorem dX0_readWhile_23 : decode cX0_readWhile 23 = .ok (.invokevirtual 75, 3) := by decide +kernel
theorem dX0_readWhile_26 : decode cX0_readWhile 26 = .ok (.aload_n 0, 1) := by decide +kernel
theorem dX0_readWhile_27 : decode cX0_readWhile 27 = .ok (.getfield 29, 3) := by decide +kernel
theorem dX0_readWhile_30 : decode cX0_readWhile 30 = .ok (.bipush 45, 2) := by decide +kernel
theorem dX0_readWhile_32 : decode cX0_readWhile 32 = .ok (.iload_n 2, 1) := by decide +kernel
theorem dX0_readWhile_33 : decode cX0_readWhile 33 = .ok (.invokevirtual 78, 3) := by decide +kernel
theorem dX0_readWhile_36 : decode cX0_readWhile 36 = .ok (.pop, 1) := by decide +kernel
theorem dX0_readWhile_37 : decode cX0_readWhile 37 = .ok (.aload_n 0, 1) := by decide +kernel
theorem dX0_readWhile_38 : decode cX0_readWhile 38 = .ok (.getfield 29, 3) := by decide +kernel
theorem dX0_readWhile_41 : decode cX0_readWhile 41 = .ok (.iload_n 3, 1) := by decide +kernel
theorem dX0_readWhile_42 : decode cX0_readWhile 42 = .ok (.invokevirtual 107, 3) := by decide +kernel
theorem dX0_readWhile_45 : decode cX0_readWhile 45 = .ok (.return_, 1) := by decide +kernel
theorem dX0_readChoice_0 : decode cX0_readChoice 0 = .ok (.aload_n 0, 1) := by decide +kernel
theorem dX0_readChoice_1 : decode cX0_readChoice 1 = .ok (.bipush 6, 2) := by decide +kernel
theorem dX0_readChoice_3 : decode cX0_readChoice 3 = .ok (.invokevirtual 65, 3) := by decide +kernel
theorem dX0_readChoice_6 : decode cX0_readChoice 6 = .ok (.aload_n 0, 1) := by decide +kernel
theorem dX0_readChoice_7 : decode cX0_readChoice 7 = .ok (.iconst 0, 1) := by decide +kernel
theorem dX0_readChoice_8 : decode cX0_readChoice 8 = .ok (.invokevirtual 110, 3) := by decide +kernel
theorem dX0_readChoice_11 : decode cX0_readChoice 11 = .ok (.aload_n 0, 1) := by decide +kernel
theorem dX0_readChoice_12 : decode cX0_readChoice 12 = .ok (.bipush 7, 2) := by decide +kernel
theorem dX0_readChoice_14 : decode cX0_readChoice 14 = .ok (.invokevirtual 65, 3) := by decide +kernel
theorem dX0_readChoice_17 : decode cX0_readChoice 17 = .ok (.return_, 1) := by decide +kernel
theorem dX0_readWord_0 : decode cX0_readWord 0 = .ok (.aload_n 0, 1) := by decide +kernel
theorem dX0_readWord_1 : decode cX0_readWord 1 = .ok (.invokevirtual 68, 3) := by decide +kernel
theorem dX0_readWord_4 : decode cX0_readWord 4 = .ok (.aload_n 0, 1) := by decide +kernel
theorem dX0_readWord_5 : decode cX0_readWord 5 = .ok (.iconst 0, 1) := by decide +kernel
theorem dX0_readWord_6 : decode cX0_readWord 6 = .ok (.invokevirtual 110, 3) := by decide +kernel
theorem dX0_readWord_9 : decode cX0_readWord 9 = .ok (.aload_n 0, 1) := by decide +kernel
theorem dX0_readWord_10 : decode cX0_readWord 10 = .ok (.getfield 29, 3) := by decide +kernel
theorem dX0_readWord_13 : decode cX0_readWord 13 = .ok (.iload_n 1, 1) := by decide +kernel
theorem dX0_readWord_14 : decode cX0_readWord 14 = .ok (.iconst 0, 1) := by decide +kernel
theorem dX0_readWord_15 : decode cX0_readWord 15 = .ok (.invokevirtual 78, 3) := by decide +kernel
theorem dX0_readWord_18 : decode cX0_readWord 18 = .ok (.pop, 1) := by decide +kernel
theorem dX0_readWord_19 : decode cX0_readWord 19 = .ok (.aload_n 0, 1) := by decide +kernel
theorem dX0_readWord_20 : decode cX0_readWord 20 = .ok (.bipush 10, 2) := by decide +kernel
theorem dX0_readWord_22 : decode cX0_readWord 22 = .ok (.invokevirtual 65, 3) := by decide +kernel
theorem dX0_readWord_25 : decode cX0_readWord 25 = .ok (.return_, 1) := by decide +kernel
theorem dX0_readSetting_0 : decode cX0_readSetting 0 = .ok (.iload_n 1, 1) := by decide +kernel
theorem dX0_readSetting_1 : decode cX0_readSetting 1 = .ok (.bipush 32, 2) := by decide +kernel
theorem dX0_readSetting_3 : decode cX0_readSetting 3 = .ok (.bipush 8, 2) := by decide +kernel
theorem dX0_readSetting_5 : decode cX0_readSetting 5 = .ok (.invokestatic 94, 3) := by decide +kernel
theorem dX0_readSetting_8 : decode cX0_readSetting 8 = .ok (.istore_n 2, 1) := by decide +kernel
theorem dX0_readSetting_9 : decode cX0_readSetting 9 = .ok (.iload_n 1, 1) := by decide +kernel
theorem dX0_readSetting_10 : decode cX0_readSetting 10 = .ok (.bipush 44, 2) := by decide +kernel
theorem dX0_readSetting_12 : decode cX0_readSetting 12 = .ok (.bipush 8, 2) := by decide +kernel
theorem dX0_readSetting_14 : decode cX0_readSetting 14 = .ok (.invokestatic 94, 3) := by decide +kernel
theorem dX0_readSetting_17 : decode cX0_readSetting 17 = .ok (.istore_n 3, 1) := by decide +kernel
theorem dX0_readSetting_18 : decode cX0_readSetting 18 = .ok (.iload_n 1, 1) := by decide +kernel
theorem dX0_readSetting_19 : decode cX0_readSetting 19 = .ok (.bipush 40, 2) := by decide +kernel
theorem dX0_readSetting_21 : decode cX0_readSetting 21 = .ok (.iconst 4, 1) := by decide +kernel
theorem dX0_readSetting_22 : decode cX0_readSetting 22 = .ok (.invokestatic 94, 3) := by decide +kernel
theorem dX0_readSetting_25 : decode cX0_readSetting 25 = .ok (.istore 4, 2) := by decide +kernel
theorem dX0_readSetting_27 : decode cX0_readSetting 27 = .ok (.iload_n 2, 1) := by decide +kernel
theorem dX0_readSetting_28 : decode cX0_readSetting 28 = .ok (.ifCond .ne 18, 3) := by decide +kernel
theorem dX0_readSetting_31 : decode cX0_readSetting 31 = .ok (.iload_n 3, 1) := by decide +kernel
theorem dX0_readSetting_32 : decode cX0_readSetting 32 = .ok (.ifCond .ne 14, 3) := by decide +kernel
theorem dX0_readSetting_35 : decode cX0_readSetting 35 = .ok (.iload 4, 2) := by decide +kernel
theorem dX0_readSetting_37 : decode cX0_readSetting 37 = .ok (.ifCond .ne 9, 3) := by decide +kernel
theorem dX0_readSetting_40 : decode cX0_readSetting 40 = .ok (.aload_n 0, 1) := by decide +kernel
theorem dX0_readSetting_41 : decode cX0_readSetting 41 = .ok (.iconst 1, 1) := by decide +kernel
theorem dX0_readSetting_42 : decode cX0_readSetting 42 = .ok (.invokevirtual 57, 3) := by decide +kernel
theorem dX0_readSetting_45 : decode cX0_readSetting 45 = .ok (.return_, 1) := by decide +kernel
theorem dX0_readSetting_46 : decode cX0_readSetting 46 = .ok (.aload_n 0, 1) := by decide +kernel
theorem dX0_readSetting_47 : decode cX0_readSetting 47 = .ok (.invokevirtual 68, 3) := by decide +kernel
theorem dX0_readSetting_50 : decode cX0_readSetting 50 = .ok (.iload 4, 2) := by decide +kernel
theorem dX0_readSetting_52 : decode cX0_readSetting 52 = .ok (.ifCond .eq 8, 3) := by decide +kernel
theorem dX0_readSetting_55 : decode cX0_readSetting 55 = .ok (.aload_n 0, 1) := by decide +kernel
theorem dX0_readSetting_56 : decode cX0_readSetting 56 = .ok (.iconst 0, 1) := by decide +kernel
theorem dX0_readSetting_57 : decode cX0_readSetting 57 = .ok (.invokevirtual 113, 3) := by decide +kernel
theorem dX0_readSetting_60 : decode cX0_readSetting 60 = .ok (.aload_n 0, 1) := by decide +kernel
theorem dX0_readSetting_61 : decode cX0_readSetting 61 = .ok (.bipush 12, 2) := by decide +kernel
theorem dX0_readSetting_63 : decode cX0_readSetting 63 = .ok (.invokevirtual 65, 3) := by decide +kernel
theorem dX0_readSetting_66 : decode cX0_readSetting 66 = .ok (.aload_n 0, 1) := by decide +kernel
theorem dX0_readSetting_67 : decode cX0_readSetting 67 = .ok (.iconst 0, 1) := by decide +kernel
theorem dX0_readSetting_68 : decode cX0_readSetting 68 = .ok (.invokevirtual 110, 3) := by decide +kernel
theorem dX0_readSetting_71 : decode cX0_readSetting 71 = .ok (.aload_n 0, 1) := by decide +kernel
theorem dX0_readSetting_72 : decode cX0_readSetting 72 = .ok (.bipush 10, 2) := by decide +kernel
theorem dX0_readSetting_74 : decode cX0_readSetting 74 = .ok (.invokevirtual 65, 3) := by decide +kernel
theorem dX0_readSetting_77 : decode cX0_readSetting 77 = .ok (.iload_n 2, 1) := by decide +kernel
theorem dX0_readSetting_78 : decode cX0_readSetting 78 = .ok (.ifCond .eq 20, 3) := by decide +kernel
theorem dX0_readSetting_81 : decode cX0_readSetting 81 = .ok (.aload_n 0, 1) := by decide +kernel
theorem dX0_readSetting_82 : decode cX0_readSetting 82 = .ok (.getfield 29, 3) := by decide +kernel
theorem dX0_readSetting_85 : decode cX0_readSetting 85 = .ok (.bipush 37, 2) := by decide +kernel
theorem dX0_readSetting_87 : decode cX0_readSetting 87 = .ok (.iload_n 1, 1) := by decide +kernel
theorem dX0_readSetting_88 : decode cX0_readSetting 88 = .ok (.bipush 32, 2) := by decide +kernel
theorem dX0_readSetting_90 : decode cX0_readSetting 90 = .ok (.isub, 1) := by decide +kernel
theorem dX0_readSetting_91 : decode cX0_readSetting 91 = .ok (.invokevirtual 78, 3) := by decide +kernel
theorem dX0_readSetting_94 : decode cX0_readSetting 94 = .ok (.pop, 1) := by decide +kernel
theorem dX0_readSetting_95 : decode cX0_readSetting 95 = .ok (.goto 38, 3) := by decide +kernel
theorem dX0_readSetting_98 : decode cX0_readSetting 98 = .ok (.iload_n 3, 1) := by decide +kernel
theorem dX0_readSetting_99 : decode cX0_readSetting 99 = .ok (.ifCond .eq 20, 3) := by decide +kernel
theorem dX0_readSetting_102 : decode cX0_readSetting 102 = .ok (.aload_n 0, 1) := by decide +kernel
theorem dX0_readSetting_103 : decode cX0_readSetting 103 = .ok (.getfield 29, 3) := by decide +kernel
theorem dX0_readSetting_106 : decode cX0_readSetting 106 = .ok (.bipush 39, 2) := by decide +kernel
theorem dX0_readSetting_108 : decode cX0_readSetting 108 = .ok (.iload_n 1, 1) := by decide +kernel
theorem dX0_readSetting_109 : decode cX0_readSetting 109 = .ok (.bipush 44, 2) := by decide +kernel
theorem dX0_readSetting_111 : decode cX0_readSetting 111 = .ok (.isub, 1) := by decide +kernel
theorem dX0_readSetting_112 : decode cX0_readSetting 112 = .ok (.invokevirtual 78, 3) := by decide +kernel
theorem dX0_readSetting_115 : decode cX0_readSetting 115 = .ok (.pop, 1) := by decide +kernel
theorem dX0_readSetting_116 : decode cX0_readSetting 116 = .ok (.goto 17, 3) := by decide +kernel
theorem dX0_readSetting_119 : decode cX0_readSetting 119 = .ok (.aload_n 0, 1) := by decide +kernel
theorem dX0_readSetting_120 : decode cX0_readSetting 120 = .ok (.getfield 29, 3) := by decide +kernel
theorem dX0_readSetting_123 : decode cX0_readSetting 123 = .ok (.bipush 41, 2) := by decide +kernel
theorem dX0_readSetting_125 : decode cX0_readSetting 125 = .ok (.iload_n 1, 1) := by decide +kernel
theorem dX0_readSetting_126 : decode cX0_readSetting 126 = .ok (.bipush 40, 2) := by decide +kernel
theorem dX0_readSetting_128 : decode cX0_readSetting 128 = .ok (.isub, 1) := by decide +kernel
theorem dX0_readSetting_129 : decode cX0_readSetting 129 = .ok (.invokevirtual 78, 3) := by decide +kernel
theorem dX0_readSetting_132 : decode cX0_readSetting 132 = .ok (.pop, 1) := by decide +kernel
theorem dX0_readSetting_133 : decode cX0_readSetting 133 = .ok (.return_, 1) := by decide +kernel
theorem dX0_readIndex_0 : decode cX0_readIndex 0 = .ok (.aload_n 0, 1) := by decide +kernel
theorem dX0_readIndex_1 : decode cX0_readIndex 1 = .ok (.bipush 21, 2) := by decide +kernel
theorem dX0_readIndex_3 : decode cX0_readIndex 3 = .ok (.invokevirtual 65, 3) := by decide +kernel
theorem dX0_readIndex_6 : decode cX0_readIndex 6 = .ok (.aload_n 0, 1) := by decide +kernel
theorem dX0_readIndex_7 : decode cX0_readIndex 7 = .ok (.iload_n 1, 1) := by decide +kernel
theorem dX0_readIndex_8 : decode cX0_readIndex 8 = .ok (.invokevirtual 110, 3) := by decide +kernel
theorem dX0_readIndex_11 : decode cX0_readIndex 11 = .ok (.aload_n 0, 1) := by decide +kernel
theorem dX0_readIndex_12 : decode cX0_readIndex 12 = .ok (.bipush 22, 2) := by decide +kernel
theorem dX0_readIndex_14 : decode cX0_readIndex 14 = .ok (.invokevirtual 65, 3) := by decide +kernel
theorem dX0_readIndex_17 : decode cX0_readIndex 17 = .ok (.return_, 1) := by decide +kernel
theorem dX0_readCall_0 : decode cX0_readCall 0 = .ok (.aload_n 0, 1) := by decide +kernel
theorem dX0_readCall_1 : decode cX0_readCall 1 = .ok (.getfield 15, 3) := by decide +kernel
theorem dX0_readCall_4 : decode cX0_readCall 4 = .ok (.istore_n 2, 1) := by decide +kernel
theorem dX0_readCall_5 : decode cX0_readCall 5 = .ok (.aload_n 0, 1) := by decide +kernel
theorem dX0_readCall_6 : decode cX0_readCall 6 = .ok (.invokevirtual 36, 3) := by decide +kernel
theorem dX0_readCall_9 : decode cX0_readCall 9 = .ok (.bipush 52, 2) := by decide +kernel
theorem dX0_readCall_11 : decode cX0_readCall 11 = .ok (.isub, 1) := by decide +kernel
theorem dX0_readCall_12 : decode cX0_readCall 12 = .ok (.istore_n 3, 1) := by decide +kernel
theorem dX0_readCall_13 : decode cX0_readCall 13 = .ok (.aload_n 0, 1) := by decide +kernel
theorem dX0_readCall_14 : decode cX0_readCall 14 = .ok (.invokevirtual 68, 3) := by decide +kernel
theorem dX0_readCall_17 : decode cX0_readCall 17 = .ok (.aload_n 0, 1) := by decide +kernel
theorem dX0_readCall_18 : decode cX0_readCall 18 = .ok (.bipush 6, 2) := by decide +kernel
theorem dX0_readCall_20 : decode cX0_readCall 20 = .ok (.invokevirtual 65, 3) := by decide +kernel
theorem dX0_readCall_23 : decode cX0_readCall 23 = .ok (.iconst 0, 1) := by decide +kernel
theorem dX0_readCall_24 : decode cX0_readCall 24 = .ok (.istore 4, 2) := by decide +kernel
theorem dX0_readCall_26 : decode cX0_readCall 26 = .ok (.aload_n 0, 1) := by decide +kernel
theorem dX0_readCall_27 : decode cX0_readCall 27 = .ok (.invokevirtual 36, 3) := by decide +kernel
theorem dX0_readCall_30 : decode cX0_readCall 30 = .ok (.bipush 7, 2) := by decide +kernel
theorem dX0_readCall_32 : decode cX0_readCall 32 = .ok (.if_icmp .eq 43, 3) := by decide +kernel
theorem dX0_readCall_35 : decode cX0_readCall 35 = .ok (.aload_n 0, 1) := by decide +kernel
theorem dX0_readCall_36 : decode cX0_readCall 36 = .ok (.iload_n 1, 1) := by decide +kernel
theorem dX0_readCall_37 : decode cX0_readCall 37 = .ok (.invokevirtual 110, 3) := by decide +kernel
theorem dX0_readCall_40 : decode cX0_readCall 40 = .ok (.iconst 1, 1) := by decide +kernel
theorem dX0_readCall_41 : decode cX0_readCall 41 = .ok (.istore 4, 2) := by decide +kernel
theorem dX0_readCall_43 : decode cX0_readCall 43 = .ok (.iload 4, 2) := by decide +kernel
theorem dX0_readCall_45 : decode cX0_readCall 45 = .ok (.sipush 160, 3) := by decide +kernel
theorem dX0_readCall_48 : decode cX0_readCall 48 = .ok (.if_icmp .ge 27, 3) := by decide +kernel
theorem dX0_readCall_51 : decode cX0_readCall 51 = .ok (.aload_n 0, 1) := by decide +kernel
theorem dX0_readCall_52 : decode cX0_readCall 52 = .ok (.invokevirtual 36, 3) := by decide +kernel
theorem dX0_readCall_55 : decode cX0_readCall 55 = .ok (.bipush 11, 2) := by decide +kernel
theorem dX0_readCall_57 : decode cX0_readCall 57 = .ok (.if_icmp .ne 18, 3) := by decide +kernel
theorem dX0_readCall_60 : decode cX0_readCall 60 = .ok (.aload_n 0, 1) := by decide +kernel
theorem dX0_readCall_61 : decode cX0_readCall 61 = .ok (.invokevirtual 68, 3) := by decide +kernel
theorem dX0_readCall_64 : decode cX0_readCall 64 = .ok (.aload_n 0, 1) := by decide +kernel
theorem dX0_readCall_65 : decode cX0_readCall 65 = .ok (.iload_n 1, 1) := by decide +kernel
theorem dX0_readCall_66 : decode cX0_readCall 66 = .ok (.invokevirtual 110, 3) := by decide +kernel
theorem dX0_readCall_69 : decode cX0_readCall 69 = .ok (.iinc 4 1, 3) := by decide +kernel
theorem dX0_readCall_72 : decode cX0_readCall 72 = .ok (.goto (-29), 3) := by decide +kernel
theorem dX0_readCall_75 : decode cX0_readCall 75 = .ok (.aload_n 0, 1) := by decide +kernel
theorem dX0_readCall_76 : decode cX0_readCall 76 = .ok (.bipush 7, 2) := by decide +kernel
theorem dX0_readCall_78 : decode cX0_readCall 78 = .ok (.invokevirtual 65, 3) := by decide +kernel
theorem dX0_readCall_81 : decode cX0_readCall 81 = .ok (.iload_n 2, 1) := by decide +kernel
theorem dX0_readCall_82 : decode cX0_readCall 82 = .ok (.ifCond .lt 20, 3) := by decide +kernel
theorem dX0_readCall_85 : decode cX0_readCall 85 = .ok (.iload_n 2, 1) := by decide +kernel
theorem dX0_readCall_86 : decode cX0_readCall 86 = .ok (.aload_n 0, 1) := by decide +kernel
theorem dX0_readCall_87 : decode cX0_readCall 87 = .ok (.getfield 9, 3) := by decide +kernel
theorem dX0_readCall_90 : decode cX0_readCall 90 = .ok (.arraylength, 1) := by decide +kernel
theorem dX0_readCall_91 : decode cX0_readCall 91 = .ok (.if_icmp .ge 11, 3) := by decide +kernel
theorem dX0_readCall_94 : decode cX0_readCall 94 = .ok (.aload_n 0, 1) := by decide +kernel
theorem dX0_readCall_95 : decode cX0_readCall 95 = .ok (.getfield 9, 3) := by decide +kernel
theorem dX0_readCall_98 : decode cX0_readCall 98 = .ok (.iload_n 2, 1) := by decide +kernel
theorem dX0_readCall_99 : decode cX0_readCall 99 = .ok (.iload 4, 2) := by decide +kernel
theorem dX0_readCall_101 : decode cX0_readCall 101 = .ok (.iastore, 1) := by decide +kernel
theorem dX0_readCall_102 : decode cX0_readCall 102 = .ok (.aload_n 0, 1) := by decide +kernel
theorem dX0_readCall_103 : decode cX0_readCall 103 = .ok (.getfield 29, 3) := by decide +kernel
theorem dX0_readCall_106 : decode cX0_readCall 106 = .ok (.bipush 42, 2) := by decide +kernel
theorem dX0_readCall_108 : decode cX0_readCall 108 = .ok (.iload_n 3, 1) := by decide +kernel
theorem dX0_readCall_109 : decode cX0_readCall 109 = .ok (.invokevirtual 78, 3) := by decide +kernel
theorem dX0_readCall_112 : decode cX0_readCall 112 = .ok (.pop, 1) := by decide +kernel
theorem dX0_readCall_113 : decode cX0_readCall 113 = .ok (.return_, 1) := by decide +kernel
theorem dX0_readValue_0 : decode cX0_readValue 0 = .ok (.iload_n 1, 1) := by decide +kernel
theorem dX0_readValue_1 : decode cX0_readValue 1 = .ok (.iconst 3, 1) := by decide +kernel
theorem dX0_readValue_2 : decode cX0_readValue 2 = .ok (.if_icmp .le 9, 3) := by decide +kernel
theorem dX0_readValue_5 : decode cX0_readValue 5 = .ok (.aload_n 0, 1) := by decide +kernel
theorem dX0_readValue_6 : decode cX0_readValue 6 = .ok (.iconst 3, 1) := by decide +kernel
theorem dX0_readValue_7 : decode cX0_readValue 7 = .ok (.invokevirtual 57, 3) := by decide +kernel
theorem dX0_readValue_10 : decode cX0_readValue 10 = .ok (.return_, 1) := by decide +kernel
theorem dX0_readValue_11 : decode cX0_readValue 11 = .ok (.aload_n 0, 1) := by decide +kernel
theorem dX0_readValue_12 : decode cX0_readValue 12 = .ok (.iload_n 1, 1) := by decide +kernel
theorem dX0_readValue_13 : decode cX0_readValue 13 = .ok (.invokevirtual 116, 3) := by decide +kernel
theorem dX0_readValue_16 : decode cX0_readValue 16 = .ok (.aload_n 0, 1) := by decide +kernel
theorem dX0_readValue_17 : decode cX0_readValue 17 = .ok (.invokevirtual 36, 3) := by decide +kernel
theorem dX0_readValue_20 : decode cX0_readValue 20 = .ok (.istore_n 2, 1) := by decide +kernel
theorem dX0_readValue_21 : decode cX0_readValue 21 = .ok (.iload_n 2, 1) := by decide +kernel
theorem dX0_readValue_22 : decode cX0_readValue 22 = .ok (.bipush 18, 2) := by decide +kernel
theorem dX0_readValue_24 : decode cX0_readValue 24 = .ok (.if_icmp .eq 9, 3) := by decide +kernel
theorem dX0_readValue_27 : decode cX0_readValue 27 = .ok (.iload_n 2, 1) := by decide +kernel
theorem dX0_readValue_28 : decode cX0_readValue 28 = .ok (.bipush 19, 2) := by decide +kernel
theorem dX0_readValue_30 : decode cX0_readValue 30 = .ok (.if_icmp .ne 22, 3) := by decide +kernel
theorem dX0_readValue_33 : decode cX0_readValue 33 = .ok (.aload_n 0, 1) := by decide +kernel
theorem dX0_readValue_34 : decode cX0_readValue 34 = .ok (.invokevirtual 68, 3) := by decide +kernel
theorem dX0_readValue_37 : decode cX0_readValue 37 = .ok (.aload_n 0, 1) := by decide +kernel
theorem dX0_readValue_38 : decode cX0_readValue 38 = .ok (.iload_n 1, 1) := by decide +kernel
theorem dX0_readValue_39 : decode cX0_readValue 39 = .ok (.invokevirtual 116, 3) := by decide +kernel
theorem dX0_readValue_42 : decode cX0_readValue 42 = .ok (.aload_n 0, 1) := by decide +kernel
theorem dX0_readValue_43 : decode cX0_readValue 43 = .ok (.getfield 29, 3) := by decide +kernel
theorem dX0_readValue_46 : decode cX0_readValue 46 = .ok (.iload_n 2, 1) := by decide +kernel
theorem dX0_readValue_47 : decode cX0_readValue 47 = .ok (.iconst 0, 1) := by decide +kernel
theorem dX0_readValue_48 : decode cX0_readValue 48 = .ok (.invokevirtual 78, 3) := by decide +kernel
theorem dX0_readValue_51 : decode cX0_readValue 51 = .ok (.pop, 1) := by decide +kernel
theorem dX0_readValue_52 : decode cX0_readValue 52 = .ok (.return_, 1) := by decide +kernel
theorem dX0_readSum_0 : decode cX0_readSum 0 = .ok (.aload_n 0, 1) := by decide +kernel
theorem dX0_readSum_1 : decode cX0_readSum 1 = .ok (.iload_n 1, 1) := by decide +kernel
theorem dX0_readSum_2 : decode cX0_readSum 2 = .ok (.invokevirtual 119, 3) := by decide +kernel
theorem dX0_readSum_5 : decode cX0_readSum 5 = .ok (.aload_n 0, 1) := by decide +kernel
theorem dX0_readSum_6 : decode cX0_readSum 6 = .ok (.invokevirtual 36, 3) := by decide +kernel
theorem dX0_readSum_9 : decode cX0_readSum 9 = .ok (.istore_n 2, 1) := by decide +kernel
theorem dX0_readSum_10 : decode cX0_readSum 10 = .ok (.iconst 0, 1) := by decide +kernel
theorem dX0_readSum_11 : decode cX0_readSum 11 = .ok (.istore_n 3, 1) := by decide +kernel
theorem dX0_readSum_12 : decode cX0_readSum 12 = .ok (.iload_n 3, 1) := by decide +kernel
theorem dX0_readSum_13 : decode cX0_readSum 13 = .ok (.sipush 160, 3) := by decide +kernel
theorem dX0_readSum_16 : decode cX0_readSum 16 = .ok (.if_icmp .ge 45, 3) := by decide +kernel
theorem dX0_readSum_19 : decode cX0_readSum 19 = .ok (.iload_n 2, 1) := by decide +kernel
theorem dX0_readSum_20 : decode cX0_readSum 20 = .ok (.bipush 13, 2) := by decide +kernel
theorem dX0_readSum_22 : decode cX0_readSum 22 = .ok (.if_icmp .eq 9, 3) := by decide +kernel
theorem dX0_readSum_25 : decode cX0_readSum 25 = .ok (.iload_n 2, 1) := by decide +kernel
theorem dX0_readSum_26 : decode cX0_readSum 26 = .ok (.bipush 14, 2) := by decide +kernel
theorem dX0_readSum_28 : decode cX0_readSum 28 = .ok (.if_icmp .ne 33, 3) := by decide +kernel
theorem dX0_readSum_31 : decode cX0_readSum 31 = .ok (.aload_n 0, 1) := by decide +kernel
theorem dX0_readSum_32 : decode cX0_readSum 32 = .ok (.invokevirtual 68, 3) := by decide +kernel
theorem dX0_readSum_35 : decode cX0_readSum 35 = .ok (.aload_n 0, 1) := by decide +kernel
theorem dX0_readSum_36 : decode cX0_readSum 36 = .ok (.iload_n 1, 1) := by decide +kernel
theorem dX0_readSum_37 : decode cX0_readSum 37 = .ok (.invokevirtual 119, 3) := by decide +kernel
theorem dX0_readSum_40 : decode cX0_readSum 40 = .ok (.aload_n 0, 1) := by decide +kernel
theorem dX0_readSum_41 : decode cX0_readSum 41 = .ok (.getfield 29, 3) := by decide +kernel
theorem dX0_readSum_44 : decode cX0_readSum 44 = .ok (.iload_n 2, 1) := by decide +kernel
theorem dX0_readSum_45 : decode cX0_readSum 45 = .ok (.iconst 0, 1) := by decide +kernel
theorem dX0_readSum_46 : decode cX0_readSum 46 = .ok (.invokevirtual 78, 3) := by decide +kernel
theorem dX0_readSum_49 : decode cX0_readSum 49 = .ok (.pop, 1) := by decide +kernel
theorem dX0_readSum_50 : decode cX0_readSum 50 = .ok (.aload_n 0, 1) := by decide +kernel
theorem dX0_readSum_51 : decode cX0_readSum 51 = .ok (.invokevirtual 36, 3) := by decide +kernel
theorem dX0_readSum_54 : decode cX0_readSum 54 = .ok (.istore_n 2, 1) := by decide +kernel
theorem dX0_readSum_55 : decode cX0_readSum 55 = .ok (.iinc 3 1, 3) := by decide +kernel
theorem dX0_readSum_58 : decode cX0_readSum 58 = .ok (.goto (-46), 3) := by decide +kernel
theorem dX0_readSum_61 : decode cX0_readSum 61 = .ok (.return_, 1) := by decide +kernel
theorem dX0_readProduct_0 : decode cX0_readProduct 0 = .ok (.aload_n 0, 1) := by decide +kernel
theorem dX0_readProduct_1 : decode cX0_readProduct 1 = .ok (.iload_n 1, 1) := by decide +kernel
theorem dX0_readProduct_2 : decode cX0_readProduct 2 = .ok (.invokevirtual 122, 3) := by decide +kernel
theorem dX0_readProduct_5 : decode cX0_readProduct 5 = .ok (.aload_n 0, 1) := by decide +kernel
theorem dX0_readProduct_6 : decode cX0_readProduct 6 = .ok (.invokevirtual 36, 3) := by decide +kernel
theorem dX0_readProduct_9 : decode cX0_readProduct 9 = .ok (.istore_n 2, 1) := by decide +kernel
theorem dX0_readProduct_10 : decode cX0_readProduct 10 = .ok (.iconst 0, 1) := by decide +kernel
theorem dX0_readProduct_11 : decode cX0_readProduct 11 = .ok (.istore_n 3, 1) := by decide +kernel
theorem dX0_readProduct_12 : decode cX0_readProduct 12 = .ok (.iload_n 3, 1) := by decide +kernel
theorem dX0_readProduct_13 : decode cX0_readProduct 13 = .ok (.sipush 160, 3) := by decide +kernel
theorem dX0_readProduct_16 : decode cX0_readProduct 16 = .ok (.if_icmp .ge 43, 3) := by decide +kernel
theorem dX0_readProduct_19 : decode cX0_readProduct 19 = .ok (.iload_n 2, 1) := by decide +kernel
theorem dX0_readProduct_20 : decode cX0_readProduct 20 = .ok (.bipush 15, 2) := by decide +kernel
theorem dX0_readProduct_22 : decode cX0_readProduct 22 = .ok (.iconst 3, 1) := by decide +kernel
theorem dX0_readProduct_23 : decode cX0_readProduct 23 = .ok (.invokestatic 94, 3) := by decide +kernel
theorem dX0_readProduct_26 : decode cX0_readProduct 26 = .ok (.ifCond .eq 33, 3) := by decide +kernel
theorem dX0_readProduct_29 : decode cX0_readProduct 29 = .ok (.aload_n 0, 1) := by decide +kernel
theorem dX0_readProduct_30 : decode cX0_readProduct 30 = .ok (.invokevirtual 68, 3) := by decide +kernel
theorem dX0_readProduct_33 : decode cX0_readProduct 33 = .ok (.aload_n 0, 1) := by decide +kernel
theorem dX0_readProduct_34 : decode cX0_readProduct 34 = .ok (.iload_n 1, 1) := by decide +kernel
theorem dX0_readProduct_35 : decode cX0_readProduct 35 = .ok (.invokevirtual 122, 3) := by decide +kernel
theorem dX0_readProduct_38 : decode cX0_readProduct 38 = .ok (.aload_n 0, 1) := by decide +kernel
theorem dX0_readProduct_39 : decode cX0_readProduct 39 = .ok (.getfield 29, 3) := by decide +kernel
theorem dX0_readProduct_42 : decode cX0_readProduct 42 = .ok (.iload_n 2, 1) := by decide +kernel
theorem dX0_readProduct_43 : decode cX0_readProduct 43 = .ok (.iconst 0, 1) := by decide +kernel
theorem dX0_readProduct_44 : decode cX0_readProduct 44 = .ok (.invokevirtual 78, 3) := by decide +kernel
theorem dX0_readProduct_47 : decode cX0_readProduct 47 = .ok (.pop, 1) := by decide +kernel
theorem dX0_readProduct_48 : decode cX0_readProduct 48 = .ok (.aload_n 0, 1) := by decide +kernel
theorem dX0_readProduct_49 : decode cX0_readProduct 49 = .ok (.invokevirtual 36, 3) := by decide +kernel
theorem dX0_readProduct_52 : decode cX0_readProduct 52 = .ok (.istore_n 2, 1) := by decide +kernel
theorem dX0_readProduct_53 : decode cX0_readProduct 53 = .ok (.iinc 3 1, 3) := by decide +kernel
theorem dX0_readProduct_56 : decode cX0_readProduct 56 = .ok (.goto (-44), 3) := by decide +kernel
theorem dX0_readProduct_59 : decode cX0_readProduct 59 = .ok (.return_, 1) := by decide +kernel
theorem dX0_readPart_0 : decode cX0_readPart 0 = .ok (.aload_n 0, 1) := by decide +kernel
theorem dX0_readPart_1 : decode cX0_readPart 1 = .ok (.invokevirtual 36, 3) := by decide +kernel
theorem dX0_readPart_4 : decode cX0_readPart 4 = .ok (.istore_n 2, 1) := by decide +kernel
theorem dX0_readPart_5 : decode cX0_readPart 5 = .ok (.iload_n 2, 1) := by decide +kernel
theorem dX0_readPart_6 : decode cX0_readPart 6 = .ok (.bipush 14, 2) := by decide +kernel
theorem dX0_readPart_8 : decode cX0_readPart 8 = .ok (.if_icmp .eq 9, 3) := by decide +kernel
theorem dX0_readPart_11 : decode cX0_readPart 11 = .ok (.iload_n 2, 1) := by decide +kernel
theorem dX0_readPart_12 : decode cX0_readPart 12 = .ok (.bipush 20, 2) := by decide +kernel
theorem dX0_readPart_14 : decode cX0_readPart 14 = .ok (.if_icmp .ne 37, 3) := by decide +kernel
theorem dX0_readPart_17 : decode cX0_readPart 17 = .ok (.aload_n 0, 1) := by decide +kernel
theorem dX0_readPart_18 : decode cX0_readPart 18 = .ok (.invokevirtual 68, 3) := by decide +kernel
theorem dX0_readPart_21 : decode cX0_readPart 21 = .ok (.aload_n 0, 1) := by decide +kernel
theorem dX0_readPart_22 : decode cX0_readPart 22 = .ok (.iload_n 1, 1) := by decide +kernel
theorem dX0_readPart_23 : decode cX0_readPart 23 = .ok (.invokevirtual 125, 3) := by decide +kernel
theorem dX0_readPart_26 : decode cX0_readPart 26 = .ok (.aload_n 0, 1) := by decide +kernel
theorem dX0_readPart_27 : decode cX0_readPart 27 = .ok (.getfield 29, 3) := by decide +kernel
theorem dX0_readPart_30 : decode cX0_readPart 30 = .ok (.iload_n 2, 1) := by decide +kernel
theorem dX0_readPart_31 : decode cX0_readPart 31 = .ok (.bipush 14, 2) := by decide +kernel
theorem dX0_readPart_33 : decode cX0_readPart 33 = .ok (.if_icmp .ne 8, 3) := by decide +kernel
theorem dX0_readPart_36 : decode cX0_readPart 36 = .ok (.bipush 35, 2) := by decide +kernel
theorem dX0_readPart_38 : decode cX0_readPart 38 = .ok (.goto 5, 3) := by decide +kernel
theorem dX0_readPart_41 : decode cX0_readPart 41 = .ok (.bipush 20, 2) := by decide +kernel
theorem dX0_readPart_43 : decode cX0_readPart 43 = .ok (.iconst 0, 1) := by decide +kernel
theorem dX0_readPart_44 : decode cX0_readPart 44 = .ok (.invokevirtual 78, 3) := by decide +kernel
theorem dX0_readPart_47 : decode cX0_readPart 47 = .ok (.pop, 1) := by decide +kernel
theorem dX0_readPart_48 : decode cX0_readPart 48 = .ok (.goto 8, 3) := by decide +kernel
theorem dX0_readPart_51 : decode cX0_readPart 51 = .ok (.aload_n 0, 1) := by decide +kernel
theorem dX0_readPart_52 : decode cX0_readPart 52 = .ok (.iload_n 1, 1) := by decide +kernel
theorem dX0_readPart_53 : decode cX0_readPart 53 = .ok (.invokevirtual 125, 3) := by decide +kernel
theorem dX0_readPart_56 : decode cX0_readPart 56 = .ok (.return_, 1) := by decide +kernel
theorem dX0_readPiece_0 : decode cX0_readPiece 0 = .ok (.aload_n 0, 1) := by decide +kernel
theorem dX0_readPiece_1 : decode cX0_readPiece 1 = .ok (.invokevirtual 36, 3) := by decide +kernel
theorem dX0_readPiece_4 : decode cX0_readPiece 4 = .ok (.istore_n 2, 1) := by decide +kernel
theorem dX0_readPiece_5 : decode cX0_readPiece 5 = .ok (.iload_n 2, 1) := by decide +kernel
theorem dX0_readPiece_6 : decode cX0_readPiece 6 = .ok (.bipush 52, 2) := by decide +kernel
theorem dX0_readPiece_8 : decode cX0_readPiece 8 = .ok (.bipush 6, 2) := by decide +kernel
theorem dX0_readPiece_10 : decode cX0_readPiece 10 = .ok (.invokestatic 94, 3) := by decide +kernel
theorem dX0_readPiece_13 : decode cX0_readPiece 13 = .ok (.ifCond .eq 13, 3) := by decide +kernel
theorem dX0_readPiece_16 : decode cX0_readPiece 16 = .ok (.aload_n 0, 1) := by decide +kernel
theorem dX0_readPiece_17 : decode cX0_readPiece 17 = .ok (.iload_n 1, 1) := by decide +kernel
theorem dX0_readPiece_18 : decode cX0_readPiece 18 = .ok (.iconst 1, 1) := by decide +kernel
theorem dX0_readPiece_19 : decode cX0_readPiece 19 = .ok (.iadd, 1) := by decide +kernel
theorem dX0_readPiece_20 : decode cX0_readPiece 20 = .ok (.invokevirtual 98, 3) := by decide +kernel
theorem dX0_readPiece_23 : decode cX0_readPiece 23 = .ok (.goto 72, 3) := by decide +kernel
theorem dX0_readPiece_26 : decode cX0_readPiece 26 = .ok (.iload_n 2, 1) := by decide +kernel
theorem dX0_readPiece_27 : decode cX0_readPiece 27 = .ok (.bipush 40, 2) := by decide +kernel
theorem dX0_readPiece_29 : decode cX0_readPiece 29 = .ok (.iconst 4, 1) := by decide +kernel
theorem dX0_readPiece_30 : decode cX0_readPiece 30 = .ok (.invokestatic 94, 3) := by decide +kernel
theorem dX0_readPiece_33 : decode cX0_readPiece 33 = .ok (.ifCond .eq 31, 3) := by decide +kernel
theorem dX0_readPiece_36 : decode cX0_readPiece 36 = .ok (.aload_n 0, 1) := by decide +kernel
theorem dX0_readPiece_37 : decode cX0_readPiece 37 = .ok (.invokevirtual 68, 3) := by decide +kernel
theorem dX0_readPiece_40 : decode cX0_readPiece 40 = .ok (.aload_n 0, 1) := by decide +kernel
theorem dX0_readPiece_41 : decode cX0_readPiece 41 = .ok (.iload_n 1, 1) := by decide +kernel
theorem dX0_readPiece_42 : decode cX0_readPiece 42 = .ok (.iconst 1, 1) := by decide +kernel
theorem dX0_readPiece_43 : decode cX0_readPiece 43 = .ok (.iadd, 1) := by decide +kernel
theorem dX0_readPiece_44 : decode cX0_readPiece 44 = .ok (.invokevirtual 113, 3) := by decide +kernel
theorem dX0_readPiece_47 : decode cX0_readPiece 47 = .ok (.aload_n 0, 1) := by decide +kernel
theorem dX0_readPiece_48 : decode cX0_readPiece 48 = .ok (.getfield 29, 3) := by decide +kernel
theorem dX0_readPiece_51 : decode cX0_readPiece 51 = .ok (.bipush 40, 2) := by decide +kernel
theorem dX0_readPiece_53 : decode cX0_readPiece 53 = .ok (.iload_n 2, 1) := by decide +kernel
theorem dX0_readPiece_54 : decode cX0_readPiece 54 = .ok (.bipush 40, 2) := by decide +kernel
theorem dX0_readPiece_56 : decode cX0_readPiece 56 = .ok (.isub, 1) := by decide +kernel
theorem dX0_readPiece_57 : decode cX0_readPiece 57 = .ok (.invokevirtual 78, 3) := by decide +kernel
theorem dX0_readPiece_60 : decode cX0_readPiece 60 = .ok (.pop, 1) := by decide +kernel
theorem dX0_readPiece_61 : decode cX0_readPiece 61 = .ok (.goto 34, 3) := by decide +kernel
theorem dX0_readPiece_64 : decode cX0_readPiece 64 = .ok (.iload_n 2, 1) := by decide +kernel
theorem dX0_readPiece_65 : decode cX0_readPiece 65 = .ok (.bipush 6, 2) := by decide +kernel
theorem dX0_readPiece_67 : decode cX0_readPiece 67 = .ok (.if_icmp .ne 23, 3) := by decide +kernel
theorem dX0_readPiece_70 : decode cX0_readPiece 70 = .ok (.aload_n 0, 1) := by decide +kernel
theorem dX0_readPiece_71 : decode cX0_readPiece 71 = .ok (.invokevirtual 68, 3) := by decide +kernel
theorem dX0_readPiece_74 : decode cX0_readPiece 74 = .ok (.aload_n 0, 1) := by decide +kernel
theorem dX0_readPiece_75 : decode cX0_readPiece 75 = .ok (.iload_n 1, 1) := by decide +kernel
theorem dX0_readPiece_76 : decode cX0_readPiece 76 = .ok (.iconst 1, 1) := by decide +kernel
theorem dX0_readPiece_77 : decode cX0_readPiece 77 = .ok (.iadd, 1) := by decide +kernel
theorem dX0_readPiece_78 : decode cX0_readPiece 78 = .ok (.invokevirtual 110, 3) := by decide +kernel
theorem dX0_readPiece_81 : decode cX0_readPiece 81 = .ok (.aload_n 0, 1) := by decide +kernel
theorem dX0_readPiece_82 : decode cX0_readPiece 82 = .ok (.bipush 7, 2) := by decide +kernel
theorem dX0_readPiece_84 : decode cX0_readPiece 84 = .ok (.invokevirtual 65, 3) := by decide +kernel
theorem dX0_readPiece_87 : decode cX0_readPiece 87 = .ok (.goto 8, 3) := by decide +kernel
theorem dX0_readPiece_90 : decode cX0_readPiece 90 = .ok (.aload_n 0, 1) := by decide +kernel
theorem dX0_readPiece_91 : decode cX0_readPiece 91 = .ok (.iload_n 2, 1) := by decide +kernel
theorem dX0_readPiece_92 : decode cX0_readPiece 92 = .ok (.invokevirtual 128, 3) := by decide +kernel
theorem dX0_readPiece_95 : decode cX0_readPiece 95 = .ok (.return_, 1) := by decide +kernel
theorem dX0_readSingle_0 : decode cX0_readSingle 0 = .ok (.iload_n 1, 1) := by decide +kernel
theorem dX0_readSingle_1 : decode cX0_readSingle 1 = .ok (.bipush 64, 2) := by decide +kernel
theorem dX0_readSingle_3 : decode cX0_readSingle 3 = .ok (.sipush 128, 3) := by decide +kernel
theorem dX0_readSingle_6 : decode cX0_readSingle 6 = .ok (.invokestatic 94, 3) := by decide +kernel
theorem dX0_readSingle_9 : decode cX0_readSingle 9 = .ok (.ifCond .eq 20, 3) := by decide +kernel
theorem dX0_readSingle_12 : decode cX0_readSingle 12 = .ok (.aload_n 0, 1) := by decide +kernel
theorem dX0_readSingle_13 : decode cX0_readSingle 13 = .ok (.getfield 29, 3) := by decide +kernel
theorem dX0_readSingle_16 : decode cX0_readSingle 16 = .ok (.bipush 33, 2) := by decide +kernel
theorem dX0_readSingle_18 : decode cX0_readSingle 18 = .ok (.iload_n 1, 1) := by decide +kernel
theorem dX0_readSingle_19 : decode cX0_readSingle 19 = .ok (.bipush 64, 2) := by decide +kernel
theorem dX0_readSingle_21 : decode cX0_readSingle 21 = .ok (.isub, 1) := by decide +kernel
theorem dX0_readSingle_22 : decode cX0_readSingle 22 = .ok (.invokevirtual 78, 3) := by decide +kernel
theorem dX0_readSingle_25 : decode cX0_readSingle 25 = .ok (.pop, 1) := by decide +kernel
theorem dX0_readSingle_26 : decode cX0_readSingle 26 = .ok (.goto 84, 3) := by decide +kernel
theorem dX0_readSingle_29 : decode cX0_readSingle 29 = .ok (.iload_n 1, 1) := by decide +kernel
theorem dX0_readSingle_30 : decode cX0_readSingle 30 = .ok (.iconst 5, 1) := by decide +kernel
theorem dX0_readSingle_31 : decode cX0_readSingle 31 = .ok (.if_icmp .ne 17, 3) := by decide +kernel
theorem dX0_readSingle_34 : decode cX0_readSingle 34 = .ok (.aload_n 0, 1) := by decide +kernel
theorem dX0_readSingle_35 : decode cX0_readSingle 35 = .ok (.getfield 29, 3) := by decide +kernel
theorem dX0_readSingle_38 : decode cX0_readSingle 38 = .ok (.bipush 34, 2) := by decide +kernel
theorem dX0_readSingle_40 : decode cX0_readSingle 40 = .ok (.iconst 0, 1) := by decide +kernel
theorem dX0_readSingle_41 : decode cX0_readSingle 41 = .ok (.invokevirtual 78, 3) := by decide +kernel
theorem dX0_readSingle_44 : decode cX0_readSingle 44 = .ok (.pop, 1) := by decide +kernel
theorem dX0_readSingle_45 : decode cX0_readSingle 45 = .ok (.goto 65, 3) := by decide +kernel
theorem dX0_readSingle_48 : decode cX0_readSingle 48 = .ok (.iload_n 1, 1) := by decide +kernel
theorem dX0_readSingle_49 : decode cX0_readSingle 49 = .ok (.bipush 32, 2) := by decide +kernel
theorem dX0_readSingle_51 : decode cX0_readSingle 51 = .ok (.bipush 8, 2) := by decide +kernel
theorem dX0_readSingle_53 : decode cX0_readSingle 53 = .ok (.invokestatic 94, 3) := by decide +kernel
theorem dX0_readSingle_56 : decode cX0_readSingle 56 = .ok (.ifCond .eq 20, 3) := by decide +kernel
theorem dX0_readSingle_59 : decode cX0_readSingle 59 = .ok (.aload_n 0, 1) := by decide +kernel
theorem dX0_readSingle_60 : decode cX0_readSingle 60 = .ok (.getfield 29, 3) := by decide +kernel
theorem dX0_readSingle_63 : decode cX0_readSingle 63 = .ok (.bipush 36, 2) := by decide +kernel
theorem dX0_readSingle_65 : decode cX0_readSingle 65 = .ok (.iload_n 1, 1) := by decide +kernel
theorem dX0_readSingle_66 : decode cX0_readSingle 66 = .ok (.bipush 32, 2) := by decide +kernel
theorem dX0_readSingle_68 : decode cX0_readSingle 68 = .ok (.isub, 1) := by decide +kernel
theorem dX0_readSingle_69 : decode cX0_readSingle 69 = .ok (.invokevirtual 78, 3) := by decide +kernel
theorem dX0_readSingle_72 : decode cX0_readSingle 72 = .ok (.pop, 1) := by decide +kernel
theorem dX0_readSingle_73 : decode cX0_readSingle 73 = .ok (.goto 37, 3) := by decide +kernel
theorem dX0_readSingle_76 : decode cX0_readSingle 76 = .ok (.iload_n 1, 1) := by decide +kernel
theorem dX0_readSingle_77 : decode cX0_readSingle 77 = .ok (.bipush 44, 2) := by decide +kernel
theorem dX0_readSingle_79 : decode cX0_readSingle 79 = .ok (.bipush 8, 2) := by decide +kernel
theorem dX0_readSingle_81 : decode cX0_readSingle 81 = .ok (.invokestatic 94, 3) := by decide +kernel
theorem dX0_readSingle_84 : decode cX0_readSingle 84 = .ok (.ifCond .eq 20, 3) := by decide +kernel
theorem dX0_readSingle_87 : decode cX0_readSingle 87 = .ok (.aload_n 0, 1) := by decide +kernel
theorem dX0_readSingle_88 : decode cX0_readSingle 88 = .ok (.getfield 29, 3) := by decide +kernel
theorem dX0_readSingle_91 : decode cX0_readSingle 91 = .ok (.bipush 38, 2) := by decide +kernel
theorem dX0_readSingle_93 : decode cX0_readSingle 93 = .ok (.iload_n 1, 1) := by decide +kernel
theorem dX0_readSingle_94 : decode cX0_readSingle 94 = .ok (.bipush 44, 2) := by decide +kernel
theorem dX0_readSingle_96 : decode cX0_readSingle 96 = .ok (.isub, 1) := by decide +kernel
theorem dX0_readSingle_97 : decode cX0_readSingle 97 = .ok (.invokevirtual 78, 3) := by decide +kernel
theorem dX0_readSingle_100 : decode cX0_readSingle 100 = .ok (.pop, 1) := by decide +kernel
theorem dX0_readSingle_101 : decode cX0_readSingle 101 = .ok (.goto 9, 3) := by decide +kernel
theorem dX0_readSingle_104 : decode cX0_readSingle 104 = .ok (.aload_n 0, 1) := by decide +kernel
theorem dX0_readSingle_105 : decode cX0_readSingle 105 = .ok (.iconst 1, 1) := by decide +kernel
theorem dX0_readSingle_106 : decode cX0_readSingle 106 = .ok (.invokevirtual 57, 3) := by decide +kernel
theorem dX0_readSingle_109 : decode cX0_readSingle 109 = .ok (.return_, 1) := by decide +kernel
theorem dX0_readSingle_110 : decode cX0_readSingle 110 = .ok (.aload_n 0, 1) := by decide +kernel
theorem dX0_readSingle_111 : decode cX0_readSingle 111 = .ok (.invokevirtual 68, 3) := by decide +kernel
theorem dX0_readSingle_114 : decode cX0_readSingle 114 = .ok (.return_, 1) := by decide +kernel
theorem dX0_checkCalls_0 : decode cX0_checkCalls 0 = .ok (.iconst 0, 1) := by decide +kernel
theorem dX0_checkCalls_1 : decode cX0_checkCalls 1 = .ok (.istore_n 1, 1) := by decide +kernel
theorem dX0_checkCalls_2 : decode cX0_checkCalls 2 = .ok (.iload_n 1, 1) := by decide +kernel
theorem dX0_checkCalls_3 : decode cX0_checkCalls 3 = .ok (.sipush 160, 3) := by decide +kernel
theorem dX0_checkCalls_6 : decode cX0_checkCalls 6 = .ok (.if_icmp .ge 55, 3) := by decide +kernel
theorem dX0_checkCalls_9 : decode cX0_checkCalls 9 = .ok (.aload_n 0, 1) := by decide +kernel
theorem dX0_checkCalls_10 : decode cX0_checkCalls 10 = .ok (.getfield 19, 3) := by decide +kernel
theorem dX0_checkCalls_13 : decode cX0_checkCalls 13 = .ok (.ifCond .ne 48, 3) := by decide +kernel
theorem dX0_checkCalls_16 : decode cX0_checkCalls 16 = .ok (.aload_n 0, 1) := by decide +kernel
theorem dX0_checkCalls_17 : decode cX0_checkCalls 17 = .ok (.getfield 9, 3) := by decide +kernel
theorem dX0_checkCalls_20 : decode cX0_checkCalls 20 = .ok (.iload_n 1, 1) := by decide +kernel
theorem dX0_checkCalls_21 : decode cX0_checkCalls 21 = .ok (.iaload, 1) := by decide +kernel
theorem dX0_checkCalls_22 : decode cX0_checkCalls 22 = .ok (.iconst (-1), 1) := by decide +kernel
theorem dX0_checkCalls_23 : decode cX0_checkCalls 23 = .ok (.if_icmp .eq 32, 3) := by decide +kernel
theorem dX0_checkCalls_26 : decode cX0_checkCalls 26 = .ok (.aload_n 0, 1) := by decide +kernel
theorem dX0_checkCalls_27 : decode cX0_checkCalls 27 = .ok (.iload_n 1, 1) := by decide +kernel
theorem dX0_checkCalls_28 : decode cX0_checkCalls 28 = .ok (.putfield 15, 3) := by decide +kernel
theorem dX0_checkCalls_31 : decode cX0_checkCalls 31 = .ok (.aload_n 0, 1) := by decide +kernel
theorem dX0_checkCalls_32 : decode cX0_checkCalls 32 = .ok (.aload_n 0, 1) := by decide +kernel
theorem dX0_checkCalls_33 : decode cX0_checkCalls 33 = .ok (.getfield 29, 3) := by decide +kernel
theorem dX0_checkCalls_36 : decode cX0_checkCalls 36 = .ok (.aload_n 0, 1) := by decide +kernel
theorem dX0_checkCalls_37 : decode cX0_checkCalls 37 = .ok (.invokevirtual 36, 3) := by decide +kernel
theorem dX0_checkCalls_40 : decode cX0_checkCalls 40 = .ok (.bipush 52, 2) := by decide +kernel
theorem dX0_checkCalls_42 : decode cX0_checkCalls 42 = .ok (.isub, 1) := by decide +kernel
theorem dX0_checkCalls_43 : decode cX0_checkCalls 43 = .ok (.invokevirtual 51, 3) := by decide +kernel
theorem dX0_checkCalls_46 : decode cX0_checkCalls 46 = .ok (.aload_n 0, 1) := by decide +kernel
theorem dX0_checkCalls_47 : decode cX0_checkCalls 47 = .ok (.getfield 9, 3) := by decide +kernel
theorem dX0_checkCalls_50 : decode cX0_checkCalls 50 = .ok (.iload_n 1, 1) := by decide +kernel
theorem dX0_checkCalls_51 : decode cX0_checkCalls 51 = .ok (.iaload, 1) := by decide +kernel
theorem dX0_checkCalls_52 : decode cX0_checkCalls 52 = .ok (.invokevirtual 131, 3) := by decide +kernel
theorem dX0_checkCalls_55 : decode cX0_checkCalls 55 = .ok (.iinc 1 1, 3) := by decide +kernel
theorem dX0_checkCalls_58 : decode cX0_checkCalls 58 = .ok (.goto (-56), 3) := by decide +kernel
theorem dX0_checkCalls_61 : decode cX0_checkCalls 61 = .ok (.return_, 1) := by decide +kernel
theorem dX0_checkCall_0 : decode cX0_checkCall 0 = .ok (.iload_n 1, 1) := by decide +kernel
theorem dX0_checkCall_1 : decode cX0_checkCall 1 = .ok (.iconst (-1), 1) := by decide +kernel
theorem dX0_checkCall_2 : decode cX0_checkCall 2 = .ok (.if_icmp .ne 11, 3) := by decide +kernel
theorem dX0_checkCall_5 : decode cX0_checkCall 5 = .ok (.aload_n 0, 1) := by decide +kernel
theorem dX0_checkCall_6 : decode cX0_checkCall 6 = .ok (.iconst 4, 1) := by decide +kernel
theorem dX0_checkCall_7 : decode cX0_checkCall 7 = .ok (.invokevirtual 57, 3) := by decide +kernel
theorem dX0_checkCall_10 : decode cX0_checkCall 10 = .ok (.goto 13, 3) := by decide +kernel
theorem dX0_checkCall_13 : decode cX0_checkCall 13 = .ok (.iload_n 1, 1) := by decide +kernel
theorem dX0_checkCall_14 : decode cX0_checkCall 14 = .ok (.iload_n 2, 1) := by decide +kernel
theorem dX0_checkCall_15 : decode cX0_checkCall 15 = .ok (.if_icmp .eq 8, 3) := by decide +kernel
theorem dX0_checkCall_18 : decode cX0_checkCall 18 = .ok (.aload_n 0, 1) := by decide +kernel
theorem dX0_checkCall_19 : decode cX0_checkCall 19 = .ok (.iconst 5, 1) := by decide +kernel
theorem dX0_checkCall_20 : decode cX0_checkCall 20 = .ok (.invokevirtual 57, 3) := by decide +kernel
theorem dX0_checkCall_23 : decode cX0_checkCall 23 = .ok (.return_, 1) := by decide +kernel
theorem dX0_isOf_0 : decode cX0_isOf 0 = .ok (.iload_n 0, 1) := by decide +kernel
theorem dX0_isOf_1 : decode cX0_isOf 1 = .ok (.iload_n 1, 1) := by decide +kernel
theorem dX0_isOf_2 : decode cX0_isOf 2 = .ok (.if_icmp .lt 14, 3) := by decide +kernel
theorem dX0_isOf_5 : decode cX0_isOf 5 = .ok (.iload_n 0, 1) := by decide +kernel
theorem dX0_isOf_6 : decode cX0_isOf 6 = .ok (.iload_n 1, 1) := by decide +kernel
theorem dX0_isOf_7 : decode cX0_isOf 7 = .ok (.iload_n 2, 1) := by decide +kernel
theorem dX0_isOf_8 : decode cX0_isOf 8 = .ok (.iadd, 1) := by decide +kernel
theorem dX0_isOf_9 : decode cX0_isOf 9 = .ok (.if_icmp .ge 7, 3) := by decide +kernel
theorem dX0_isOf_12 : decode cX0_isOf 12 = .ok (.iconst 1, 1) := by decide +kernel
theorem dX0_isOf_13 : decode cX0_isOf 13 = .ok (.goto 4, 3) := by decide +kernel
theorem dX0_isOf_16 : decode cX0_isOf 16 = .ok (.iconst 0, 1) := by decide +kernel
theorem dX0_isOf_17 : decode cX0_isOf 17 = .ok (.ireturn, 1) := by decide +kernel
theorem dX1_init_0 : decode cX1_init 0 = .ok (.aload_n 0, 1) := by decide +kernel
theorem dX1_init_1 : decode cX1_init 1 = .ok (.invokespecial 3, 3) := by decide +kernel
theorem dX1_init_4 : decode cX1_init 4 = .ok (.aload_n 0, 1) := by decide +kernel
theorem dX1_init_5 : decode cX1_init 5 = .ok (.bipush 8, 2) := by decide +kernel
theorem dX1_init_7 : decode cX1_init 7 = .ok (.newarray .int, 2) := by decide +kernel
theorem dX1_init_9 : decode cX1_init 9 = .ok (.putfield 9, 3) := by decide +kernel
theorem dX1_init_12 : decode cX1_init 12 = .ok (.aload_n 0, 1) := by decide +kernel
theorem dX1_init_13 : decode cX1_init 13 = .ok (.iconst 0, 1) := by decide +kernel
theorem dX1_init_14 : decode cX1_init 14 = .ok (.putfield 13, 3) := by decide +kernel
theorem dX1_init_17 : decode cX1_init 17 = .ok (.aload_n 0, 1) := by decide +kernel
theorem dX1_init_18 : decode cX1_init 18 = .ok (.iconst 0, 1) := by decide +kernel
theorem dX1_init_19 : decode cX1_init 19 = .ok (.putfield 17, 3) := by decide +kernel
theorem dX1_init_22 : decode cX1_init 22 = .ok (.return_, 1) := by decide +kernel
theorem dX1_count_0 : decode cX1_count 0 = .ok (.aload_n 0, 1) := by decide +kernel
theorem dX1_count_1 : decode cX1_count 1 = .ok (.getfield 17, 3) := by decide +kernel
theorem dX1_count_4 : decode cX1_count 4 = .ok (.ireturn, 1) := by decide +kernel
theorem dX1_full_0 : decode cX1_full 0 = .ok (.aload_n 0, 1) := by decide +kernel
theorem dX1_full_1 : decode cX1_full 1 = .ok (.getfield 17, 3) := by decide +kernel
theorem dX1_full_4 : decode cX1_full 4 = .ok (.bipush 8, 2) := by decide +kernel
theorem dX1_full_6 : decode cX1_full 6 = .ok (.if_icmp .lt 7, 3) := by decide +kernel
theorem dX1_full_9 : decode cX1_full 9 = .ok (.iconst 1, 1) := by decide +kernel
theorem dX1_full_10 : decode cX1_full 10 = .ok (.goto 4, 3) := by decide +kernel
theorem dX1_full_13 : decode cX1_full 13 = .ok (.iconst 0, 1) := by decide +kernel
theorem dX1_full_14 : decode cX1_full 14 = .ok (.ireturn, 1) := by decide +kernel
theorem dX1_add_0 : decode cX1_add 0 = .ok (.aload_n 0, 1) := by decide +kernel
theorem dX1_add_1 : decode cX1_add 1 = .ok (.getfield 17, 3) := by decide +kernel
theorem dX1_add_4 : decode cX1_add 4 = .ok (.bipush 8, 2) := by decide +kernel
theorem dX1_add_6 : decode cX1_add 6 = .ok (.if_icmp .ge 31, 3) := by decide +kernel
theorem dX1_add_9 : decode cX1_add 9 = .ok (.aload_n 0, 1) := by decide +kernel
theorem dX1_add_10 : decode cX1_add 10 = .ok (.getfield 9, 3) := by decide +kernel
theorem dX1_add_13 : decode cX1_add 13 = .ok (.aload_n 0, 1) := by decide +kernel
theorem dX1_add_14 : decode cX1_add 14 = .ok (.getfield 13, 3) := by decide +kernel
theorem dX1_add_17 : decode cX1_add 17 = .ok (.aload_n 0, 1) := by decide +kernel
theorem dX1_add_18 : decode cX1_add 18 = .ok (.getfield 17, 3) := by decide +kernel
theorem dX1_add_21 : decode cX1_add 21 = .ok (.iadd, 1) := by decide +kernel
theorem dX1_add_22 : decode cX1_add 22 = .ok (.bipush 7, 2) := by decide +kernel
theorem dX1_add_24 : decode cX1_add 24 = .ok (.iand, 1) := by decide +kernel
theorem dX1_add_25 : decode cX1_add 25 = .ok (.iload_n 1, 1) := by decide +kernel
theorem dX1_add_26 : decode cX1_add 26 = .ok (.iastore, 1) := by decide +kernel
theorem dX1_add_27 : decode cX1_add 27 = .ok (.aload_n 0, 1) := by decide +kernel
theorem dX1_add_28 : decode cX1_add 28 = .ok (.dup, 1) := by decide +kernel
theorem dX1_add_29 : decode cX1_add 29 = .ok (.getfield 17, 3) := by decide +kernel
theorem dX1_add_32 : decode cX1_add 32 = .ok (.iconst 1, 1) := by decide +kernel
theorem dX1_add_33 : decode cX1_add 33 = .ok (.iadd, 1) := by decide +kernel
theorem dX1_add_34 : decode cX1_add 34 = .ok (.putfield 17, 3) := by decide +kernel
theorem dX1_add_37 : decode cX1_add 37 = .ok (.return_, 1) := by decide +kernel
theorem dX1_take_0 : decode cX1_take 0 = .ok (.aload_n 0, 1) := by decide +kernel
theorem dX1_take_1 : decode cX1_take 1 = .ok (.getfield 17, 3) := by decide +kernel
theorem dX1_take_4 : decode cX1_take 4 = .ok (.ifCond .ne 5, 3) := by decide +kernel
theorem dX1_take_7 : decode cX1_take 7 = .ok (.iconst 0, 1) := by decide +kernel
theorem dX1_take_8 : decode cX1_take 8 = .ok (.ireturn, 1) := by decide +kernel
theorem dX1_take_9 : decode cX1_take 9 = .ok (.aload_n 0, 1) := by decide +kernel
theorem dX1_take_10 : decode cX1_take 10 = .ok (.getfield 9, 3) := by decide +kernel
theorem dX1_take_13 : decode cX1_take 13 = .ok (.aload_n 0, 1) := by decide +kernel
theorem dX1_take_14 : decode cX1_take 14 = .ok (.getfield 13, 3) := by decide +kernel
theorem dX1_take_17 : decode cX1_take 17 = .ok (.bipush 7, 2) := by decide +kernel
theorem dX1_take_19 : decode cX1_take 19 = .ok (.iand, 1) := by decide +kernel
theorem dX1_take_20 : decode cX1_take 20 = .ok (.iaload, 1) := by decide +kernel
theorem dX1_take_21 : decode cX1_take 21 = .ok (.istore_n 1, 1) := by decide +kernel
theorem dX1_take_22 : decode cX1_take 22 = .ok (.aload_n 0, 1) := by decide +kernel
theorem dX1_take_23 : decode cX1_take 23 = .ok (.aload_n 0, 1) := by decide +kernel
theorem dX1_take_24 : decode cX1_take 24 = .ok (.getfield 13, 3) := by decide +kernel
theorem dX1_take_27 : decode cX1_take 27 = .ok (.iconst 1, 1) := by decide +kernel
theorem dX1_take_28 : decode cX1_take 28 = .ok (.iadd, 1) := by decide +kernel
theorem dX1_take_29 : decode cX1_take 29 = .ok (.bipush 7, 2) := by decide +kernel
theorem dX1_take_31 : decode cX1_take 31 = .ok (.iand, 1) := by decide +kernel
theorem dX1_take_32 : decode cX1_take 32 = .ok (.putfield 13, 3) := by decide +kernel
theorem dX1_take_35 : decode cX1_take 35 = .ok (.aload_n 0, 1) := by decide +kernel
theorem dX1_take_36 : decode cX1_take 36 = .ok (.dup, 1) := by decide +kernel
theorem dX1_take_37 : decode cX1_take 37 = .ok (.getfield 17, 3) := by decide +kernel
theorem dX1_take_40 : decode cX1_take 40 = .ok (.iconst 1, 1) := by decide +kernel
theorem dX1_take_41 : decode cX1_take 41 = .ok (.isub, 1) := by decide +kernel
theorem dX1_take_42 : decode cX1_take 42 = .ok (.putfield 17, 3) := by decide +kernel
theorem dX1_take_45 : decode cX1_take 45 = .ok (.iload_n 1, 1) := by decide +kernel
theorem dX1_take_46 : decode cX1_take 46 = .ok (.ireturn, 1) := by decide +kernel
theorem dX2_init_0 : decode cX2_init 0 = .ok (.aload_n 0, 1) := by decide +kernel
theorem dX2_init_1 : decode cX2_init 1 = .ok (.invokespecial 5, 3) := by decide +kernel
theorem dX2_init_4 : decode cX2_init 4 = .ok (.aload_n 0, 1) := by decide +kernel
theorem dX2_init_5 : decode cX2_init 5 = .ok (.bipush 8, 2) := by decide +kernel
theorem dX2_init_7 : decode cX2_init 7 = .ok (.newarray .int, 2) := by decide +kernel
theorem dX2_init_9 : decode cX2_init 9 = .ok (.putfield 11, 3) := by decide +kernel
theorem dX2_init_12 : decode cX2_init 12 = .ok (.aload_n 0, 1) := by decide +kernel
theorem dX2_init_13 : decode cX2_init 13 = .ok (.bipush 32, 2) := by decide +kernel
theorem dX2_init_15 : decode cX2_init 15 = .ok (.newarray .int, 2) := by decide +kernel
theorem dX2_init_17 : decode cX2_init 17 = .ok (.putfield 15, 3) := by decide +kernel
theorem dX2_init_20 : decode cX2_init 20 = .ok (.aload_n 0, 1) := by decide +kernel
theorem dX2_init_21 : decode cX2_init 21 = .ok (.bipush 80, 2) := by decide +kernel
theorem dX2_init_23 : decode cX2_init 23 = .ok (.newarray .int, 2) := by decide +kernel
theorem dX2_init_25 : decode cX2_init 25 = .ok (.putfield 18, 3) := by decide +kernel
theorem dX2_init_28 : decode cX2_init 28 = .ok (.aload_n 0, 1) := by decide +kernel
theorem dX2_init_29 : decode cX2_init 29 = .ok (.bipush 10, 2) := by decide +kernel
theorem dX2_init_31 : decode cX2_init 31 = .ok (.newarray .int, 2) := by decide +kernel
theorem dX2_init_33 : decode cX2_init 33 = .ok (.putfield 21, 3) := by decide +kernel
theorem dX2_init_36 : decode cX2_init 36 = .ok (.aload_n 0, 1) := by decide +kernel
theorem dX2_init_37 : decode cX2_init 37 = .ok (.sipush 512, 3) := by decide +kernel
theorem dX2_init_40 : decode cX2_init 40 = .ok (.newarray .int, 2) := by decide +kernel
theorem dX2_init_42 : decode cX2_init 42 = .ok (.putfield 24, 3) := by decide +kernel
theorem dX2_init_45 : decode cX2_init 45 = .ok (.aload_n 0, 1) := by decide +kernel
theorem dX2_init_46 : decode cX2_init 46 = .ok (.bipush 32, 2) := by decide +kernel
theorem dX2_init_48 : decode cX2_init 48 = .ok (.newarray .int, 2) := by decide +kernel
theorem dX2_init_50 : decode cX2_init 50 = .ok (.putfield 27, 3) := by decide +kernel
theorem dX2_init_53 : decode cX2_init 53 = .ok (.aload_n 0, 1) := by decide +kernel
theorem dX2_init_54 : decode cX2_init 54 = .ok (.iconst 0, 1) := by decide +kernel
theorem dX2_init_55 : decode cX2_init 55 = .ok (.putfield 30, 3) := by decide +kernel
theorem dX2_init_58 : decode cX2_init 58 = .ok (.aload_n 0, 1) := by decide +kernel
theorem dX2_init_59 : decode cX2_init 59 = .ok (.iconst 0, 1) := by decide +kernel
theorem dX2_init_60 : decode cX2_init 60 = .ok (.putfield 34, 3) := by decide +kernel
theorem dX2_init_63 : decode cX2_init 63 = .ok (.aload_n 0, 1) := by decide +kernel
theorem dX2_init_64 : decode cX2_init 64 = .ok (.iconst 0, 1) := by decide +kernel
theorem dX2_init_65 : decode cX2_init 65 = .ok (.putfield 37, 3) := by decide +kernel
theorem dX2_init_68 : decode cX2_init 68 = .ok (.aload_n 0, 1) := by decide +kernel
theorem dX2_init_69 : decode cX2_init 69 = .ok (.iconst 0, 1) := by decide +kernel
theorem dX2_init_70 : decode cX2_init 70 = .ok (.putfield 40, 3) := by decide +kernel
theorem dX2_init_73 : decode cX2_init 73 = .ok (.aload_n 0, 1) := by decide +kernel
theorem dX2_init_74 : decode cX2_init 74 = .ok (.iconst 0, 1) := by decide +kernel
theorem dX2_init_75 : decode cX2_init 75 = .ok (.putfield 43, 3) := by decide +kernel
theorem dX2_init_78 : decode cX2_init 78 = .ok (.aload_n 0, 1) := by decide +kernel
theorem dX2_init_79 : decode cX2_init 79 = .ok (.iconst 0, 1) := by decide +kernel
theorem dX2_init_80 : decode cX2_init 80 = .ok (.putfield 46, 3) := by decide +kernel
theorem dX2_init_83 : decode cX2_init 83 = .ok (.aload_n 0, 1) := by decide +kernel
theorem dX2_init_84 : decode cX2_init 84 = .ok (.aload_n 1, 1) := by decide +kernel
theorem dX2_init_85 : decode cX2_init 85 = .ok (.putfield 49, 3) := by decide +kernel
theorem dX2_init_88 : decode cX2_init 88 = .ok (.aload_n 0, 1) := by decide +kernel
theorem dX2_init_89 : decode cX2_init 89 = .ok (.aload_n 2, 1) := by decide +kernel
theorem dX2_init_90 : decode cX2_init 90 = .ok (.putfield 53, 3) := by decide +kernel
theorem dX2_init_93 : decode cX2_init 93 = .ok (.return_, 1) := by decide +kernel
theorem dX2_state_0 : decode cX2_state 0 = .ok (.aload_n 0, 1) := by decide +kernel
theorem dX2_state_1 : decode cX2_state 1 = .ok (.getfield 30, 3) := by decide +kernel
theorem dX2_state_4 : decode cX2_state 4 = .ok (.ireturn, 1) := by decide +kernel
theorem dX2_begun_0 : decode cX2_begun 0 = .ok (.aload_n 0, 1) := by decide +kernel
theorem dX2_begun_1 : decode cX2_begun 1 = .ok (.getfield 34, 3) := by decide +kernel
theorem dX2_begun_4 : decode cX2_begun 4 = .ok (.ireturn, 1) := by decide +kernel
theorem dX2_countShown_0 : decode cX2_countShown 0 = .ok (.aload_n 0, 1) := by decide +kernel
theorem dX2_countShown_1 : decode cX2_countShown 1 = .ok (.getfield 37, 3) := by decide +kernel
theorem dX2_countShown_4 : decode cX2_countShown 4 = .ok (.ireturn, 1) := by decide +kernel
theorem dX2_running_0 : decode cX2_running 0 = .ok (.aload_n 0, 1) := by decide +kernel
theorem dX2_running_1 : decode cX2_running 1 = .ok (.getfield 40, 3) := by decide +kernel
theorem dX2_running_4 : decode cX2_running 4 = .ok (.ireturn, 1) := by decide +kernel
theorem dX2_hasShown_0 : decode cX2_hasShown 0 = .ok (.iload_n 1, 1) := by decide +kernel
theorem dX2_hasShown_1 : decode cX2_hasShown 1 = .ok (.ifCond .lt 21, 3) := by decide +kernel
theorem dX2_hasShown_4 : decode cX2_hasShown 4 = .ok (.iload_n 1, 1) := by decide +kernel
theorem dX2_hasShown_5 : decode cX2_hasShown 5 = .ok (.bipush 32, 2) := by decide +kernel
theorem dX2_hasShown_7 : decode cX2_hasShown 7 = .ok (.if_icmp .ge 15, 3) := by decide +kernel
theorem dX2_hasShown_10 : decode cX2_hasShown 10 = .ok (.iload_n 1, 1) := by decide +kernel
theorem dX2_hasShown_11 : decode cX2_hasShown 11 = .ok (.aload_n 0, 1) := by decide +kernel
theorem dX2_hasShown_12 : decode cX2_hasShown 12 = .ok (.getfield 37, 3) := by decide +kernel
theorem dX2_hasShown_15 : decode cX2_hasShown 15 = .ok (.if_icmp .ge 7, 3) := by decide +kernel
theorem dX2_hasShown_18 : decode cX2_hasShown 18 = .ok (.iconst 1, 1) := by decide +kernel
theorem dX2_hasShown_19 : decode cX2_hasShown 19 = .ok (.goto 4, 3) := by decide +kernel
theorem dX2_hasShown_22 : decode cX2_hasShown 22 = .ok (.iconst 0, 1) := by decide +kernel
theorem dX2_hasShown_23 : decode cX2_hasShown 23 = .ok (.ireturn, 1) := by decide +kernel
theorem dX2_shownAt_0 : decode cX2_shownAt 0 = .ok (.aload_n 0, 1) := by decide +kernel
theorem dX2_shownAt_1 : decode cX2_shownAt 1 = .ok (.getfield 27, 3) := by decide +kernel
theorem dX2_shownAt_4 : decode cX2_shownAt 4 = .ok (.aload_n 0, 1) := by decide +kernel
theorem dX2_shownAt_5 : decode cX2_shownAt 5 = .ok (.getfield 37, 3) := by decide +kernel
theorem dX2_shownAt_8 : decode cX2_shownAt 8 = .ok (.iconst 1, 1) := by decide +kernel
theorem dX2_shownAt_9 : decode cX2_shownAt 9 = .ok (.isub, 1) := by decide +kernel
theorem dX2_shownAt_10 : decode cX2_shownAt 10 = .ok (.iload_n 1, 1) := by decide +kernel
theorem dX2_shownAt_11 : decode cX2_shownAt 11 = .ok (.isub, 1) := by decide +kernel
theorem dX2_shownAt_12 : decode cX2_shownAt 12 = .ok (.bipush 31, 2) := by decide +kernel
theorem dX2_shownAt_14 : decode cX2_shownAt 14 = .ok (.iand, 1) := by decide +kernel
theorem dX2_shownAt_15 : decode cX2_shownAt 15 = .ok (.iaload, 1) := by decide +kernel
theorem dX2_shownAt_16 : decode cX2_shownAt 16 = .ok (.ireturn, 1) := by decide +kernel
theorem dX2_globalAt_0 : decode cX2_globalAt 0 = .ok (.iload_n 1, 1) := by decide +kernel
theorem dX2_globalAt_1 : decode cX2_globalAt 1 = .ok (.ifCond .lt 21, 3) := by decide +kernel
theorem dX2_globalAt_4 : decode cX2_globalAt 4 = .ok (.iload_n 1, 1) := by decide +kernel
theorem dX2_globalAt_5 : decode cX2_globalAt 5 = .ok (.aload_n 0, 1) := by decide +kernel
theorem dX2_globalAt_6 : decode cX2_globalAt 6 = .ok (.getfield 11, 3) := by decide +kernel
theorem dX2_globalAt_9 : decode cX2_globalAt 9 = .ok (.arraylength, 1) := by decide +kernel
theorem dX2_globalAt_10 : decode cX2_globalAt 10 = .ok (.if_icmp .ge 12, 3) := by decide +kernel
theorem dX2_globalAt_13 : decode cX2_globalAt 13 = .ok (.aload_n 0, 1) := by decide +kernel
theorem dX2_globalAt_14 : decode cX2_globalAt 14 = .ok (.getfield 11, 3) := by decide +kernel
theorem dX2_globalAt_17 : decode cX2_globalAt 17 = .ok (.iload_n 1, 1) := by decide +kernel
theorem dX2_globalAt_18 : decode cX2_globalAt 18 = .ok (.iaload, 1) := by decide +kernel
theorem dX2_globalAt_19 : decode cX2_globalAt 19 = .ok (.goto 4, 3) := by decide +kernel
theorem dX2_globalAt_22 : decode cX2_globalAt 22 = .ok (.iconst 0, 1) := by decide +kernel
theorem dX2_globalAt_23 : decode cX2_globalAt 23 = .ok (.ireturn, 1) := by decide +kernel
theorem dX2_placeAt_0 : decode cX2_placeAt 0 = .ok (.iload_n 1, 1) := by decide +kernel
theorem dX2_placeAt_1 : decode cX2_placeAt 1 = .ok (.bipush 8, 2) := by decide +kernel
theorem dX2_placeAt_3 : decode cX2_placeAt 3 = .ok (.imul, 1) := by decide +kernel
theorem dX2_placeAt_4 : decode cX2_placeAt 4 = .ok (.iload_n 2, 1) := by decide +kernel
theorem dX2_placeAt_5 : decode cX2_placeAt 5 = .ok (.iadd, 1) := by decide +kernel
theorem dX2_placeAt_6 : decode cX2_placeAt 6 = .ok (.istore_n 3, 1) := by decide +kernel
theorem dX2_placeAt_7 : decode cX2_placeAt 7 = .ok (.iload_n 3, 1) := by decide +kernel
theorem dX2_placeAt_8 : decode cX2_placeAt 8 = .ok (.ifCond .lt 21, 3) := by decide +kernel
theorem dX2_placeAt_11 : decode cX2_placeAt 11 = .ok (.iload_n 3, 1) := by decide +kernel
theorem dX2_placeAt_12 : decode cX2_placeAt 12 = .ok (.aload_n 0, 1) := by decide +kernel
theorem dX2_placeAt_13 : decode cX2_placeAt 13 = .ok (.getfield 15, 3) := by decide +kernel
theorem dX2_placeAt_16 : decode cX2_placeAt 16 = .ok (.arraylength, 1) := by decide +kernel
theorem dX2_placeAt_17 : decode cX2_placeAt 17 = .ok (.if_icmp .ge 12, 3) := by decide +kernel
theorem dX2_placeAt_20 : decode cX2_placeAt 20 = .ok (.aload_n 0, 1) := by decide +kernel
theorem dX2_placeAt_21 : decode cX2_placeAt 21 = .ok (.getfield 15, 3) := by decide +kernel
theorem dX2_placeAt_24 : decode cX2_placeAt 24 = .ok (.iload_n 3, 1) := by decide +kernel
theorem dX2_placeAt_25 : decode cX2_placeAt 25 = .ok (.iaload, 1) := by decide +kernel
theorem dX2_placeAt_26 : decode cX2_placeAt 26 = .ok (.goto 4, 3) := by decide +kernel
theorem dX2_placeAt_29 : decode cX2_placeAt 29 = .ok (.iconst 0, 1) := by decide +kernel
theorem dX2_placeAt_30 : decode cX2_placeAt 30 = .ok (.ireturn, 1) := by decide +kernel
theorem dX2_clear_0 : decode cX2_clear 0 = .ok (.iconst 0, 1) := by decide +kernel
theorem dX2_clear_1 : decode cX2_clear 1 = .ok (.istore_n 1, 1) := by decide +kernel
theorem dX2_clear_2 : decode cX2_clear 2 = .ok (.iload_n 1, 1) := by decide +kernel
theorem dX2_clear_3 : decode cX2_clear 3 = .ok (.bipush 8, 2) := by decide +kernel
theorem dX2_clear_5 : decode cX2_clear 5 = .ok (.if_icmp .ge 16, 3) := by decide +kernel
theorem dX2_clear_8 : decode cX2_clear 8 = .ok (.aload_n 0, 1) := by decide +kernel
theorem dX2_clear_9 : decode cX2_clear 9 = .ok (.getfield 11, 3) := by decide +kernel
theorem dX2_clear_12 : decode cX2_clear 12 = .ok (.iload_n 1, 1) := by decide +kernel
theorem dX2_clear_13 : decode cX2_clear 13 = .ok (.iconst 0, 1) := by decide +kernel
theorem dX2_clear_14 : decode cX2_clear 14 = .ok (.iastore, 1) := by decide +kernel
theorem dX2_clear_15 : decode cX2_clear 15 = .ok (.iinc 1 1, 3) := by decide +kernel
theorem dX2_clear_18 : decode cX2_clear 18 = .ok (.goto (-16), 3) := by decide +kernel
theorem dX2_clear_21 : decode cX2_clear 21 = .ok (.iconst 0, 1) := by decide +kernel
theorem dX2_clear_22 : decode cX2_clear 22 = .ok (.istore_n 1, 1) := by decide +kernel
theorem dX2_clear_23 : decode cX2_clear 23 = .ok (.iload_n 1, 1) := by decide +kernel
theorem dX2_clear_24 : decode cX2_clear 24 = .ok (.bipush 32, 2) := by decide +kernel
theorem dX2_clear_26 : decode cX2_clear 26 = .ok (.if_icmp .ge 16, 3) := by decide +kernel
theorem dX2_clear_29 : decode cX2_clear 29 = .ok (.aload_n 0, 1) := by decide +kernel
theorem dX2_clear_30 : decode cX2_clear 30 = .ok (.getfield 15, 3) := by decide +kernel
theorem dX2_clear_33 : decode cX2_clear 33 = .ok (.iload_n 1, 1) := by decide +kernel
theorem dX2_clear_34 : decode cX2_clear 34 = .ok (.iconst 0, 1) := by decide +kernel
theorem dX2_clear_35 : decode cX2_clear 35 = .ok (.iastore, 1) := by decide +kernel
theorem dX2_clear_36 : decode cX2_clear 36 = .ok (.iinc 1 1, 3) := by decide +kernel
theorem dX2_clear_39 : decode cX2_clear 39 = .ok (.goto (-16), 3) := by decide +kernel
theorem dX2_clear_42 : decode cX2_clear 42 = .ok (.aload_n 0, 1) := by decide +kernel
theorem dX2_clear_43 : decode cX2_clear 43 = .ok (.iconst 0, 1) := by decide +kernel
theorem dX2_clear_44 : decode cX2_clear 44 = .ok (.putfield 30, 3) := by decide +kernel
theorem dX2_clear_47 : decode cX2_clear 47 = .ok (.aload_n 0, 1) := by decide +kernel
theorem dX2_clear_48 : decode cX2_clear 48 = .ok (.iconst 0, 1) := by decide +kernel
theorem dX2_clear_49 : decode cX2_clear 49 = .ok (.putfield 34, 3) := by decide +kernel
theorem dX2_clear_52 : decode cX2_clear 52 = .ok (.aload_n 0, 1) := by decide +kernel
theorem dX2_clear_53 : decode cX2_clear 53 = .ok (.iconst 0, 1) := by decide +kernel
theorem dX2_clear_54 : decode cX2_clear 54 = .ok (.putfield 37, 3) := by decide +kernel
theorem dX2_clear_57 : decode cX2_clear 57 = .ok (.aload_n 0, 1) := by decide +kernel
theorem dX2_clear_58 : decode cX2_clear 58 = .ok (.iconst 0, 1) := by decide +kernel
theorem dX2_clear_59 : decode cX2_clear 59 = .ok (.putfield 40, 3) := by decide +kernel
theorem dX2_clear_62 : decode cX2_clear 62 = .ok (.aload_n 0, 1) := by decide +kernel
theorem dX2_clear_63 : decode cX2_clear 63 = .ok (.iconst 0, 1) := by decide +kernel
theorem dX2_clear_64 : decode cX2_clear 64 = .ok (.putfield 43, 3) := by decide +kernel
theorem dX2_clear_67 : decode cX2_clear 67 = .ok (.aload_n 0, 1) := by decide +kernel
theorem dX2_clear_68 : decode cX2_clear 68 = .ok (.iconst 0, 1) := by decide +kernel
theorem dX2_clear_69 : decode cX2_clear 69 = .ok (.putfield 46, 3) := by decide +kernel
theorem dX2_clear_72 : decode cX2_clear 72 = .ok (.return_, 1) := by decide +kernel
theorem dX2_begin_0 : decode cX2_begin 0 = .ok (.aload_n 0, 1) := by decide +kernel
theorem dX2_begin_1 : decode cX2_begin 1 = .ok (.invokevirtual 57, 3) := by decide +kernel
theorem dX2_begin_4 : decode cX2_begin 4 = .ok (.aload_n 0, 1) := by decide +kernel
theorem dX2_begin_5 : decode cX2_begin 5 = .ok (.iconst 0, 1) := by decide +kernel
theorem dX2_begin_6 : decode cX2_begin 6 = .ok (.invokevirtual 60, 3) := by decide +kernel
theorem dX2_begin_9 : decode cX2_begin 9 = .ok (.aload_n 0, 1) := by decide +kernel
theorem dX2_begin_10 : decode cX2_begin 10 = .ok (.iconst 1, 1) := by decide +kernel
theorem dX2_begin_11 : decode cX2_begin 11 = .ok (.putfield 30, 3) := by decide +kernel
theorem dX2_begin_14 : decode cX2_begin 14 = .ok (.return_, 1) := by decide +kernel
theorem dX2_go_0 : decode cX2_go 0 = .ok (.aload_n 0, 1) := by decide +kernel
theorem dX2_go_1 : decode cX2_go 1 = .ok (.getfield 30, 3) := by decide +kernel
theorem dX2_go_4 : decode cX2_go 4 = .ok (.iconst 2, 1) := by decide +kernel
theorem dX2_go_5 : decode cX2_go 5 = .ok (.if_icmp .ne 18, 3) := by decide +kernel
theorem dX2_go_8 : decode cX2_go 8 = .ok (.aload_n 0, 1) := by decide +kernel
theorem dX2_go_9 : decode cX2_go 9 = .ok (.getfield 53, 3) := by decide +kernel
theorem dX2_go_12 : decode cX2_go 12 = .ok (.invokevirtual 64, 3) := by decide +kernel
theorem dX2_go_15 : decode cX2_go 15 = .ok (.ifCond .le 8, 3) := by decide +kernel
theorem dX2_go_18 : decode cX2_go 18 = .ok (.aload_n 0, 1) := by decide +kernel
theorem dX2_go_19 : decode cX2_go 19 = .ok (.iconst 1, 1) := by decide +kernel
theorem dX2_go_20 : decode cX2_go 20 = .ok (.putfield 30, 3) := by decide +kernel
theorem dX2_go_23 : decode cX2_go 23 = .ok (.aload_n 0, 1) := by decide +kernel
theorem dX2_go_24 : decode cX2_go 24 = .ok (.getfield 34, 3) := by decide +kernel
theorem dX2_go_27 : decode cX2_go 27 = .ok (.iload_n 1, 1) := by decide +kernel
theorem dX2_go_28 : decode cX2_go 28 = .ok (.iadd, 1) := by decide +kernel
theorem dX2_go_29 : decode cX2_go 29 = .ok (.istore_n 2, 1) := by decide +kernel
theorem dX2_go_30 : decode cX2_go 30 = .ok (.iconst 0, 1) := by decide +kernel
theorem dX2_go_31 : decode cX2_go 31 = .ok (.istore_n 3, 1) := by decide +kernel
theorem dX2_go_32 : decode cX2_go 32 = .ok (.iload_n 3, 1) := by decide +kernel
theorem dX2_go_33 : decode cX2_go 33 = .ok (.ldc 70, 2) := by decide +kernel
theorem dX2_go_35 : decode cX2_go 35 = .ok (.if_icmp .ge 79, 3) := by decide +kernel
theorem dX2_go_38 : decode cX2_go 38 = .ok (.aload_n 0, 1) := by decide +kernel
theorem dX2_go_39 : decode cX2_go 39 = .ok (.getfield 30, 3) := by decide +kernel
theorem dX2_go_42 : decode cX2_go 42 = .ok (.iconst 1, 1) := by decide +kernel
theorem dX2_go_43 : decode cX2_go 43 = .ok (.if_icmp .ne 71, 3) := by decide +kernel
theorem dX2_go_46 : decode cX2_go 46 = .ok (.aload_n 0, 1) := by decide +kernel
theorem dX2_go_47 : decode cX2_go 47 = .ok (.getfield 49, 3) := by decide +kernel
theorem dX2_go_50 : decode cX2_go 50 = .ok (.aload_n 0, 1) := by decide +kernel
theorem dX2_go_51 : decode cX2_go 51 = .ok (.getfield 46, 3) := by decide +kernel
theorem dX2_go_54 : decode cX2_go 54 = .ok (.invokevirtual 71, 3) := by decide +kernel
theorem dX2_go_57 : decode cX2_go 57 = .ok (.istore 4, 2) := by decide +kernel
theorem dX2_go_59 : decode cX2_go 59 = .ok (.iload 4, 2) := by decide +kernel
theorem dX2_go_61 : decode cX2_go 61 = .ok (.bipush 32, 2) := by decide +kernel
theorem dX2_go_63 : decode cX2_go 63 = .ok (.if_icmp .ne 14, 3) := by decide +kernel
theorem dX2_go_66 : decode cX2_go 66 = .ok (.aload_n 0, 1) := by decide +kernel
theorem dX2_go_67 : decode cX2_go 67 = .ok (.getfield 34, 3) := by decide +kernel
theorem dX2_go_70 : decode cX2_go 70 = .ok (.iload_n 2, 1) := by decide +kernel
theorem dX2_go_71 : decode cX2_go 71 = .ok (.if_icmp .lt 6, 3) := by decide +kernel
theorem dX2_go_74 : decode cX2_go 74 = .ok (.goto 40, 3) := by decide +kernel
theorem dX2_go_77 : decode cX2_go 77 = .ok (.aload_n 0, 1) := by decide +kernel
theorem dX2_go_78 : decode cX2_go 78 = .ok (.getfield 49, 3) := by decide +kernel
theorem dX2_go_81 : decode cX2_go 81 = .ok (.aload_n 0, 1) := by decide +kernel
theorem dX2_go_82 : decode cX2_go 82 = .ok (.getfield 46, 3) := by decide +kernel
theorem dX2_go_85 : decode cX2_go 85 = .ok (.invokevirtual 77, 3) := by decide +kernel
theorem dX2_go_88 : decode cX2_go 88 = .ok (.istore 5, 2) := by decide +kernel
theorem dX2_go_90 : decode cX2_go 90 = .ok (.aload_n 0, 1) := by decide +kernel
theorem dX2_go_91 : decode cX2_go 91 = .ok (.dup, 1) := by decide +kernel
theorem dX2_go_92 : decode cX2_go 92 = .ok (.getfield 46, 3) := by decide +kernel
theorem dX2_go_95 : decode cX2_go 95 = .ok (.iconst 1, 1) := by decide +kernel
theorem dX2_go_96 : decode cX2_go 96 = .ok (.iadd, 1) := by decide +kernel
theorem dX2_go_97 : decode cX2_go 97 = .ok (.putfield 46, 3) := by decide +kernel
theorem dX2_go_100 : decode cX2_go 100 = .ok (.aload_n 0, 1) := by decide +kernel
theorem dX2_go_101 : decode cX2_go 101 = .ok (.iload 4, 2) := by decide +kernel
theorem dX2_go_103 : decode cX2_go 103 = .ok (.iload 5, 2) := by decide +kernel
theorem dX2_go_105 : decode cX2_go 105 = .ok (.invokevirtual 80, 3) := by decide +kernel
theorem dX2_go_108 : decode cX2_go 108 = .ok (.iinc 3 1, 3) := by decide +kernel
theorem dX2_go_111 : decode cX2_go 111 = .ok (.goto (-79), 3) := by decide +kernel
theorem dX2_go_114 : decode cX2_go 114 = .ok (.aload_n 0, 1) := by decide +kernel
theorem dX2_go_115 : decode cX2_go 115 = .ok (.getfield 30, 3) := by decide +kernel
theorem dX2_go_118 : decode cX2_go 118 = .ok (.ireturn, 1) := by decide +kernel
theorem dX2_act_0 : decode cX2_act 0 = .ok (.iload_n 1, 1) := by decide +kernel
theorem dX2_act_1 : decode cX2_act 1 = .ok (.lookupswitch 215 #[(0, 112), (20, 196), (32, 99), (33, 176), (34, 146), (35, 184), (42, 119), (43, 127), (44, 135), (45, 153), (46, 161)], 99) := by decide +kernel
theorem dX2_act_100 : decode cX2_act 100 = .ok (.aload_n 0, 1) := by decide +kernel
theorem dX2_act_101 : decode cX2_act 101 = .ok (.dup, 1) := by decide +kernel
theorem dX2_act_102 : decode cX2_act 102 = .ok (.getfield 34, 3) := by decide +kernel
theorem dX2_act_105 : decode cX2_act 105 = .ok (.iconst 1, 1) := by decide +kernel
theorem dX2_act_106 : decode cX2_act 106 = .ok (.iadd, 1) := by decide +kernel
theorem dX2_act_107 : decode cX2_act 107 = .ok (.putfield 34, 3) := by decide +kernel
theorem dX2_act_110 : decode cX2_act 110 = .ok (.goto 112, 3) := by decide +kernel
theorem dX2_act_113 : decode cX2_act 113 = .ok (.aload_n 0, 1) := by decide +kernel
theorem dX2_act_114 : decode cX2_act 114 = .ok (.invokevirtual 84, 3) := by decide +kernel
theorem dX2_act_117 : decode cX2_act 117 = .ok (.goto 105, 3) := by decide +kernel
theorem dX2_act_120 : decode cX2_act 120 = .ok (.aload_n 0, 1) := by decide +kernel
theorem dX2_act_121 : decode cX2_act 121 = .ok (.iload_n 2, 1) := by decide +kernel
theorem dX2_act_122 : decode cX2_act 122 = .ok (.invokevirtual 87, 3) := by decide +kernel
theorem dX2_act_125 : decode cX2_act 125 = .ok (.goto 97, 3) := by decide +kernel
theorem dX2_act_128 : decode cX2_act 128 = .ok (.aload_n 0, 1) := by decide +kernel
theorem dX2_act_129 : decode cX2_act 129 = .ok (.invokevirtual 90, 3) := by decide +kernel
theorem dX2_act_132 : decode cX2_act 132 = .ok (.pop, 1) := by decide +kernel
theorem dX2_act_133 : decode cX2_act 133 = .ok (.goto 89, 3) := by decide +kernel
theorem dX2_act_136 : decode cX2_act 136 = .ok (.aload_n 0, 1) := by decide +kernel
theorem dX2_act_137 : decode cX2_act 137 = .ok (.aload_n 0, 1) := by decide +kernel
theorem dX2_act_138 : decode cX2_act 138 = .ok (.invokevirtual 90, 3) := by decide +kernel
theorem dX2_act_141 : decode cX2_act 141 = .ok (.invokevirtual 93, 3) := by decide +kernel
theorem dX2_act_144 : decode cX2_act 144 = .ok (.goto 78, 3) := by decide +kernel
theorem dX2_act_147 : decode cX2_act 147 = .ok (.aload_n 0, 1) := by decide +kernel
theorem dX2_act_148 : decode cX2_act 148 = .ok (.invokevirtual 96, 3) := by decide +kernel
theorem dX2_act_151 : decode cX2_act 151 = .ok (.goto 71, 3) := by decide +kernel
theorem dX2_act_154 : decode cX2_act 154 = .ok (.aload_n 0, 1) := by decide +kernel
theorem dX2_act_155 : decode cX2_act 155 = .ok (.iload_n 2, 1) := by decide +kernel
theorem dX2_act_156 : decode cX2_act 156 = .ok (.putfield 46, 3) := by decide +kernel
theorem dX2_act_159 : decode cX2_act 159 = .ok (.goto 63, 3) := by decide +kernel
theorem dX2_act_162 : decode cX2_act 162 = .ok (.aload_n 0, 1) := by decide +kernel
theorem dX2_act_163 : decode cX2_act 163 = .ok (.invokevirtual 90, 3) := by decide +kernel
theorem dX2_act_166 : decode cX2_act 166 = .ok (.ifCond .ne 56, 3) := by decide +kernel
theorem dX2_act_169 : decode cX2_act 169 = .ok (.aload_n 0, 1) := by decide +kernel
theorem dX2_act_170 : decode cX2_act 170 = .ok (.iload_n 2, 1) := by decide +kernel
theorem dX2_act_171 : decode cX2_act 171 = .ok (.putfield 46, 3) := by decide +kernel
theorem dX2_act_174 : decode cX2_act 174 = .ok (.goto 48, 3) := by decide +kernel
theorem dX2_act_177 : decode cX2_act 177 = .ok (.aload_n 0, 1) := by decide +kernel
theorem dX2_act_178 : decode cX2_act 178 = .ok (.iload_n 2, 1) := by decide +kernel
theorem dX2_act_179 : decode cX2_act 179 = .ok (.invokevirtual 99, 3) := by decide +kernel
theorem dX2_act_182 : decode cX2_act 182 = .ok (.goto 40, 3) := by decide +kernel
theorem dX2_act_185 : decode cX2_act 185 = .ok (.aload_n 0, 1) := by decide +kernel
theorem dX2_act_186 : decode cX2_act 186 = .ok (.aload_n 0, 1) := by decide +kernel
theorem dX2_act_187 : decode cX2_act 187 = .ok (.invokevirtual 90, 3) := by decide +kernel
theorem dX2_act_190 : decode cX2_act 190 = .ok (.ineg, 1) := by decide +kernel
theorem dX2_act_191 : decode cX2_act 191 = .ok (.invokevirtual 99, 3) := by decide +kernel
theorem dX2_act_194 : decode cX2_act 194 = .ok (.goto 28, 3) := by decide +kernel
theorem dX2_act_197 : decode cX2_act 197 = .ok (.aload_n 0, 1) := by decide +kernel
theorem dX2_act_198 : decode cX2_act 198 = .ok (.aload_n 0, 1) := by decide +kernel
theorem dX2_act_199 : decode cX2_act 199 = .ok (.invokevirtual 90, 3) := by decide +kernel
theorem dX2_act_202 : decode cX2_act 202 = .ok (.ifCond .ne 7, 3) := by decide +kernel
theorem dX2_act_205 : decode cX2_act 205 = .ok (.iconst 1, 1) := by decide +kernel
theorem dX2_act_206 : decode cX2_act 206 = .ok (.goto 4, 3) := by decide +kernel
theorem dX2_act_209 : decode cX2_act 209 = .ok (.iconst 0, 1) := by decide +kernel
theorem dX2_act_210 : decode cX2_act 210 = .ok (.invokevirtual 99, 3) := by decide +kernel
theorem dX2_act_213 : decode cX2_act 213 = .ok (.goto 9, 3) := by decide +kernel
theorem dX2_act_216 : decode cX2_act 216 = .ok (.aload_n 0, 1) := by decide +kernel
theorem dX2_act_217 : decode cX2_act 217 = .ok (.iload_n 1, 1) := by decide +kernel
theorem dX2_act_218 : decode cX2_act 218 = .ok (.iload_n 2, 1) := by decide +kernel
theorem dX2_act_219 : decode cX2_act 219 = .ok (.invokevirtual 102, 3) := by decide +kernel
theorem dX2_act_222 : decode cX2_act 222 = .ok (.return_, 1) := by decide +kernel
theorem dX2_actOnVariable_0 : decode cX2_actOnVariable 0 = .ok (.iload_n 1, 1) := by decide +kernel
theorem dX2_actOnVariable_1 : decode cX2_actOnVariable 1 = .ok (.tableswitch 103 36 41 #[39, 51, 63, 75, 87, 95], 39) := by decide +kernel
theorem dX2_actOnVariable_40 : decode cX2_actOnVariable 40 = .ok (.aload_n 0, 1) := by decide +kernel
theorem dX2_actOnVariable_41 : decode cX2_actOnVariable 41 = .ok (.aload_n 0, 1) := by decide +kernel
theorem dX2_actOnVariable_42 : decode cX2_actOnVariable 42 = .ok (.iload_n 2, 1) := by decide +kernel
theorem dX2_actOnVariable_43 : decode cX2_actOnVariable 43 = .ok (.invokevirtual 105, 3) := by decide +kernel
theorem dX2_actOnVariable_46 : decode cX2_actOnVariable 46 = .ok (.invokevirtual 99, 3) := by decide +kernel
theorem dX2_actOnVariable_49 : decode cX2_actOnVariable 49 = .ok (.goto 60, 3) := by decide +kernel
theorem dX2_actOnVariable_52 : decode cX2_actOnVariable 52 = .ok (.aload_n 0, 1) := by decide +kernel
theorem dX2_actOnVariable_53 : decode cX2_actOnVariable 53 = .ok (.iload_n 2, 1) := by decide +kernel
theorem dX2_actOnVariable_54 : decode cX2_actOnVariable 54 = .ok (.aload_n 0, 1) := by decide +kernel
theorem dX2_actOnVariable_55 : decode cX2_actOnVariable 55 = .ok (.invokevirtual 90, 3) := by decide +kernel
theorem dX2_actOnVariable_58 : decode cX2_actOnVariable 58 = .ok (.invokevirtual 108, 3) := by decide +kernel
theorem dX2_actOnVariable_61 : decode cX2_actOnVariable 61 = .ok (.goto 48, 3) := by decide +kernel
theorem dX2_actOnVariable_64 : decode cX2_actOnVariable 64 = .ok (.aload_n 0, 1) := by decide +kernel
theorem dX2_actOnVariable_65 : decode cX2_actOnVariable 65 = .ok (.aload_n 0, 1) := by decide +kernel
theorem dX2_actOnVariable_66 : decode cX2_actOnVariable 66 = .ok (.iload_n 2, 1) := by decide +kernel
theorem dX2_actOnVariable_67 : decode cX2_actOnVariable 67 = .ok (.invokevirtual 111, 3) := by decide +kernel
theorem dX2_actOnVariable_70 : decode cX2_actOnVariable 70 = .ok (.invokevirtual 99, 3) := by decide +kernel
theorem dX2_actOnVariable_73 : decode cX2_actOnVariable 73 = .ok (.goto 36, 3) := by decide +kernel
theorem dX2_actOnVariable_76 : decode cX2_actOnVariable 76 = .ok (.aload_n 0, 1) := by decide +kernel
theorem dX2_actOnVariable_77 : decode cX2_actOnVariable 77 = .ok (.iload_n 2, 1) := by decide +kernel
theorem dX2_actOnVariable_78 : decode cX2_actOnVariable 78 = .ok (.aload_n 0, 1) := by decide +kernel
theorem dX2_actOnVariable_79 : decode cX2_actOnVariable 79 = .ok (.invokevirtual 90, 3) := by decide +kernel
theorem dX2_actOnVariable_82 : decode cX2_actOnVariable 82 = .ok (.invokevirtual 114, 3) := by decide +kernel
theorem dX2_actOnVariable_85 : decode cX2_actOnVariable 85 = .ok (.goto 24, 3) := by decide +kernel
theorem dX2_actOnVariable_88 : decode cX2_actOnVariable 88 = .ok (.aload_n 0, 1) := by decide +kernel
theorem dX2_actOnVariable_89 : decode cX2_actOnVariable 89 = .ok (.iload_n 2, 1) := by decide +kernel
theorem dX2_actOnVariable_90 : decode cX2_actOnVariable 90 = .ok (.invokevirtual 117, 3) := by decide +kernel
theorem dX2_actOnVariable_93 : decode cX2_actOnVariable 93 = .ok (.goto 16, 3) := by decide +kernel
theorem dX2_actOnVariable_96 : decode cX2_actOnVariable 96 = .ok (.aload_n 0, 1) := by decide +kernel
theorem dX2_actOnVariable_97 : decode cX2_actOnVariable 97 = .ok (.iload_n 2, 1) := by decide +kernel
theorem dX2_actOnVariable_98 : decode cX2_actOnVariable 98 = .ok (.invokevirtual 120, 3) := by decide +kernel
theorem dX2_actOnVariable_101 : decode cX2_actOnVariable 101 = .ok (.goto 8, 3) := by decide +kernel
theorem dX2_actOnVariable_104 : decode cX2_actOnVariable 104 = .ok (.aload_n 0, 1) := by decide +kernel
theorem dX2_actOnVariable_105 : decode cX2_actOnVariable 105 = .ok (.iload_n 1, 1) := by decide +kernel
theorem dX2_actOnVariable_106 : decode cX2_actOnVariable 106 = .ok (.invokevirtual 123, 3) := by decide +kernel
theorem dX2_actOnVariable_109 : decode cX2_actOnVariable 109 = .ok (.return_, 1) := by decide +kernel
theorem dX2_combine_0 : decode cX2_combine 0 = .ok (.aload_n 0, 1) := by decide +kernel
theorem dX2_combine_1 : decode cX2_combine 1 = .ok (.invokevirtual 90, 3) := by decide +kernel
theorem dX2_combine_4 : decode cX2_combine 4 = .ok (.istore_n 2, 1) := by decide +kernel
theorem dX2_combine_5 : decode cX2_combine 5 = .ok (.aload_n 0, 1) := by decide +kernel
theorem dX2_combine_6 : decode cX2_combine 6 = .ok (.invokevirtual 90, 3) := by decide +kernel
theorem dX2_combine_9 : decode cX2_combine 9 = .ok (.istore_n 3, 1) := by decide +kernel
theorem dX2_combine_10 : decode cX2_combine 10 = .ok (.iload_n 1, 1) := by decide +kernel
theorem dX2_combine_11 : decode cX2_combine 11 = .ok (.tableswitch 105 13 19 #[41, 51, 61, 105, 105, 71, 88], 41) := by decide +kernel
theorem dX2_combine_52 : decode cX2_combine 52 = .ok (.aload_n 0, 1) := by decide +kernel
theorem dX2_combine_53 : decode cX2_combine 53 = .ok (.iload_n 3, 1) := by decide +kernel
theorem dX2_combine_54 : decode cX2_combine 54 = .ok (.iload_n 2, 1) := by decide +kernel
theorem dX2_combine_55 : decode cX2_combine 55 = .ok (.iadd, 1) := by decide +kernel
theorem dX2_combine_56 : decode cX2_combine 56 = .ok (.invokevirtual 99, 3) := by decide +kernel
theorem dX2_combine_59 : decode cX2_combine 59 = .ok (.goto 64, 3) := by decide +kernel
theorem dX2_combine_62 : decode cX2_combine 62 = .ok (.aload_n 0, 1) := by decide +kernel
theorem dX2_combine_63 : decode cX2_combine 63 = .ok (.iload_n 3, 1) := by decide +kernel
theorem dX2_combine_64 : decode cX2_combine 64 = .ok (.iload_n 2, 1) := by decide +kernel
theorem dX2_combine_65 : decode cX2_combine 65 = .ok (.isub, 1) := by decide +kernel
theorem dX2_combine_66 : decode cX2_combine 66 = .ok (.invokevirtual 99, 3) := by decide +kernel
theorem dX2_combine_69 : decode cX2_combine 69 = .ok (.goto 54, 3) := by decide +kernel
theorem dX2_combine_72 : decode cX2_combine 72 = .ok (.aload_n 0, 1) := by decide +kernel
theorem dX2_combine_73 : decode cX2_combine 73 = .ok (.iload_n 3, 1) := by decide +kernel
theorem dX2_combine_74 : decode cX2_combine 74 = .ok (.iload_n 2, 1) := by decide +kernel
theorem dX2_combine_75 : decode cX2_combine 75 = .ok (.imul, 1) := by decide +kernel
theorem dX2_combine_76 : decode cX2_combine 76 = .ok (.invokevirtual 99, 3) := by decide +kernel
theorem dX2_combine_79 : decode cX2_combine 79 = .ok (.goto 44, 3) := by decide +kernel
theorem dX2_combine_82 : decode cX2_combine 82 = .ok (.aload_n 0, 1) := by decide +kernel
theorem dX2_combine_83 : decode cX2_combine 83 = .ok (.iload_n 3, 1) := by decide +kernel
theorem dX2_combine_84 : decode cX2_combine 84 = .ok (.iload_n 2, 1) := by decide +kernel
theorem dX2_combine_85 : decode cX2_combine 85 = .ok (.if_icmp .ge 7, 3) := by decide +kernel
theorem dX2_combine_88 : decode cX2_combine 88 = .ok (.iconst 1, 1) := by decide +kernel
theorem dX2_combine_89 : decode cX2_combine 89 = .ok (.goto 4, 3) := by decide +kernel
theorem dX2_combine_92 : decode cX2_combine 92 = .ok (.iconst 0, 1) := by decide +kernel
theorem dX2_combine_93 : decode cX2_combine 93 = .ok (.invokevirtual 99, 3) := by decide +kernel
theorem dX2_combine_96 : decode cX2_combine 96 = .ok (.goto 27, 3) := by decide +kernel
theorem dX2_combine_99 : decode cX2_combine 99 = .ok (.aload_n 0, 1) := by decide +kernel
theorem dX2_combine_100 : decode cX2_combine 100 = .ok (.iload_n 3, 1) := by decide +kernel
theorem dX2_combine_101 : decode cX2_combine 101 = .ok (.iload_n 2, 1) := by decide +kernel
theorem dX2_combine_102 : decode cX2_combine 102 = .ok (.if_icmp .ne 7, 3) := by decide +kernel
theorem dX2_combine_105 : decode cX2_combine 105 = .ok (.iconst 1, 1) := by decide +kernel
theorem dX2_combine_106 : decode cX2_combine 106 = .ok (.goto 4, 3) := by decide +kernel
theorem dX2_combine_109 : decode cX2_combine 109 = .ok (.iconst 0, 1) := by decide +kernel
theorem dX2_combine_110 : decode cX2_combine 110 = .ok (.invokevirtual 99, 3) := by decide +kernel
theorem dX2_combine_113 : decode cX2_combine 113 = .ok (.goto 10, 3) := by decide +kernel
theorem dX2_combine_116 : decode cX2_combine 116 = .ok (.aload_n 0, 1) := by decide +kernel
theorem dX2_combine_117 : decode cX2_combine 117 = .ok (.iload_n 1, 1) := by decide +kernel
theorem dX2_combine_118 : decode cX2_combine 118 = .ok (.iload_n 3, 1) := by decide +kernel
theorem dX2_combine_119 : decode cX2_combine 119 = .ok (.iload_n 2, 1) := by decide +kernel
theorem dX2_combine_120 : decode cX2_combine 120 = .ok (.invokevirtual 126, 3) := by decide +kernel
theorem dX2_combine_123 : decode cX2_combine 123 = .ok (.return_, 1) := by decide +kernel
theorem dX2_divide_0 : decode cX2_divide 0 = .ok (.iload_n 3, 1) := by decide +kernel
theorem dX2_divide_1 : decode cX2_divide 1 = .ok (.ifCond .ne 11, 3) := by decide +kernel
theorem dX2_divide_4 : decode cX2_divide 4 = .ok (.aload_n 0, 1) := by decide +kernel
theorem dX2_divide_5 : decode cX2_divide 5 = .ok (.iconst 4, 1) := by decide +kernel
theorem dX2_divide_6 : decode cX2_divide 6 = .ok (.putfield 30, 3) := by decide +kernel
theorem dX2_divide_9 : decode cX2_divide 9 = .ok (.goto 22, 3) := by decide +kernel
theorem dX2_divide_12 : decode cX2_divide 12 = .ok (.aload_n 0, 1) := by decide +kernel
theorem dX2_divide_13 : decode cX2_divide 13 = .ok (.iload_n 1, 1) := by decide +kernel
theorem dX2_divide_14 : decode cX2_divide 14 = .ok (.bipush 16, 2) := by decide +kernel
theorem dX2_divide_16 : decode cX2_divide 16 = .ok (.if_icmp .ne 9, 3) := by decide +kernel
theorem dX2_divide_19 : decode cX2_divide 19 = .ok (.iload_n 2, 1) := by decide +kernel
theorem dX2_divide_20 : decode cX2_divide 20 = .ok (.iload_n 3, 1) := by decide +kernel
theorem dX2_divide_21 : decode cX2_divide 21 = .ok (.idiv, 1) := by decide +kernel
theorem dX2_divide_22 : decode cX2_divide 22 = .ok (.goto 6, 3) := by decide +kernel
theorem dX2_divide_25 : decode cX2_divide 25 = .ok (.iload_n 2, 1) := by decide +kernel
theorem dX2_divide_26 : decode cX2_divide 26 = .ok (.iload_n 3, 1) := by decide +kernel
theorem dX2_divide_27 : decode cX2_divide 27 = .ok (.irem, 1) := by decide +kernel
theorem dX2_divide_28 : decode cX2_divide 28 = .ok (.invokevirtual 99, 3) := by decide +kernel
theorem dX2_divide_31 : decode cX2_divide 31 = .ok (.return_, 1) := by decide +kernel
theorem dX2_push_0 : decode cX2_push 0 = .ok (.aload_n 0, 1) := by decide +kernel
theorem dX2_push_1 : decode cX2_push 1 = .ok (.getfield 43, 3) := by decide +kernel
theorem dX2_push_4 : decode cX2_push 4 = .ok (.ifCond .lt 36, 3) := by decide +kernel
theorem dX2_push_7 : decode cX2_push 7 = .ok (.aload_n 0, 1) := by decide +kernel
theorem dX2_push_8 : decode cX2_push 8 = .ok (.getfield 43, 3) := by decide +kernel
theorem dX2_push_11 : decode cX2_push 11 = .ok (.aload_n 0, 1) := by decide +kernel
theorem dX2_push_12 : decode cX2_push 12 = .ok (.getfield 24, 3) := by decide +kernel
theorem dX2_push_15 : decode cX2_push 15 = .ok (.arraylength, 1) := by decide +kernel
theorem dX2_push_16 : decode cX2_push 16 = .ok (.if_icmp .ge 24, 3) := by decide +kernel
theorem dX2_push_19 : decode cX2_push 19 = .ok (.aload_n 0, 1) := by decide +kernel
theorem dX2_push_20 : decode cX2_push 20 = .ok (.getfield 24, 3) := by decide +kernel
theorem dX2_push_23 : decode cX2_push 23 = .ok (.aload_n 0, 1) := by decide +kernel
theorem dX2_push_24 : decode cX2_push 24 = .ok (.getfield 43, 3) := by decide +kernel
theorem dX2_push_27 : decode cX2_push 27 = .ok (.iload_n 1, 1) := by decide +kernel
theorem dX2_push_28 : decode cX2_push 28 = .ok (.i2s, 1) := by decide +kernel
theorem dX2_push_29 : decode cX2_push 29 = .ok (.iastore, 1) := by decide +kernel
theorem dX2_push_30 : decode cX2_push 30 = .ok (.aload_n 0, 1) := by decide +kernel
theorem dX2_push_31 : decode cX2_push 31 = .ok (.dup, 1) := by decide +kernel
theorem dX2_push_32 : decode cX2_push 32 = .ok (.getfield 43, 3) := by decide +kernel
theorem dX2_push_35 : decode cX2_push 35 = .ok (.iconst 1, 1) := by decide +kernel
theorem dX2_push_36 : decode cX2_push 36 = .ok (.iadd, 1) := by decide +kernel
theorem dX2_push_37 : decode cX2_push 37 = .ok (.putfield 43, 3) := by decide +kernel
theorem dX2_push_40 : decode cX2_push 40 = .ok (.return_, 1) := by decide +kernel
theorem dX2_pop_0 : decode cX2_pop 0 = .ok (.aload_n 0, 1) := by decide +kernel
theorem dX2_pop_1 : decode cX2_pop 1 = .ok (.getfield 43, 3) := by decide +kernel
theorem dX2_pop_4 : decode cX2_pop 4 = .ok (.iconst 1, 1) := by decide +kernel
theorem dX2_pop_5 : decode cX2_pop 5 = .ok (.if_icmp .lt 15, 3) := by decide +kernel
theorem dX2_pop_8 : decode cX2_pop 8 = .ok (.aload_n 0, 1) := by decide +kernel
theorem dX2_pop_9 : decode cX2_pop 9 = .ok (.getfield 43, 3) := by decide +kernel
theorem dX2_pop_12 : decode cX2_pop 12 = .ok (.aload_n 0, 1) := by decide +kernel
theorem dX2_pop_13 : decode cX2_pop 13 = .ok (.getfield 24, 3) := by decide +kernel
theorem dX2_pop_16 : decode cX2_pop 16 = .ok (.arraylength, 1) := by decide +kernel
theorem dX2_pop_17 : decode cX2_pop 17 = .ok (.if_icmp .le 5, 3) := by decide +kernel
theorem dX2_pop_20 : decode cX2_pop 20 = .ok (.iconst 0, 1) := by decide +kernel
theorem dX2_pop_21 : decode cX2_pop 21 = .ok (.ireturn, 1) := by decide +kernel
theorem dX2_pop_22 : decode cX2_pop 22 = .ok (.aload_n 0, 1) := by decide +kernel
theorem dX2_pop_23 : decode cX2_pop 23 = .ok (.dup, 1) := by decide +kernel
theorem dX2_pop_24 : decode cX2_pop 24 = .ok (.getfield 43, 3) := by decide +kernel
theorem dX2_pop_27 : decode cX2_pop 27 = .ok (.iconst 1, 1) := by decide +kernel
theorem dX2_pop_28 : decode cX2_pop 28 = .ok (.isub, 1) := by decide +kernel
theorem dX2_pop_29 : decode cX2_pop 29 = .ok (.putfield 43, 3) := by decide +kernel
theorem dX2_pop_32 : decode cX2_pop 32 = .ok (.aload_n 0, 1) := by decide +kernel
theorem dX2_pop_33 : decode cX2_pop 33 = .ok (.getfield 24, 3) := by decide +kernel
theorem dX2_pop_36 : decode cX2_pop 36 = .ok (.aload_n 0, 1) := by decide +kernel
theorem dX2_pop_37 : decode cX2_pop 37 = .ok (.getfield 43, 3) := by decide +kernel
theorem dX2_pop_40 : decode cX2_pop 40 = .ok (.iaload, 1) := by decide +kernel
theorem dX2_pop_41 : decode cX2_pop 41 = .ok (.ireturn, 1) := by decide +kernel
theorem dX2_read_0 : decode cX2_read 0 = .ok (.aload_n 0, 1) := by decide +kernel
theorem dX2_read_1 : decode cX2_read 1 = .ok (.getfield 53, 3) := by decide +kernel
theorem dX2_read_4 : decode cX2_read 4 = .ok (.invokevirtual 64, 3) := by decide +kernel
theorem dX2_read_7 : decode cX2_read 7 = .ok (.ifCond .le 17, 3) := by decide +kernel
theorem dX2_read_10 : decode cX2_read 10 = .ok (.aload_n 0, 1) := by decide +kernel
theorem dX2_read_11 : decode cX2_read 11 = .ok (.aload_n 0, 1) := by decide +kernel
theorem dX2_read_12 : decode cX2_read 12 = .ok (.getfield 53, 3) := by decide +kernel
theorem dX2_read_15 : decode cX2_read 15 = .ok (.invokevirtual 132, 3) := by decide +kernel
theorem dX2_read_18 : decode cX2_read 18 = .ok (.invokevirtual 99, 3) := by decide +kernel
theorem dX2_read_21 : decode cX2_read 21 = .ok (.goto 18, 3) := by decide +kernel
theorem dX2_read_24 : decode cX2_read 24 = .ok (.aload_n 0, 1) := by decide +kernel
theorem dX2_read_25 : decode cX2_read 25 = .ok (.iconst 2, 1) := by decide +kernel
theorem dX2_read_26 : decode cX2_read 26 = .ok (.putfield 30, 3) := by decide +kernel
theorem dX2_read_29 : decode cX2_read 29 = .ok (.aload_n 0, 1) := by decide +kernel
theorem dX2_read_30 : decode cX2_read 30 = .ok (.dup, 1) := by decide +kernel
theorem dX2_read_31 : decode cX2_read 31 = .ok (.getfield 46, 3) := by decide +kernel
theorem dX2_read_34 : decode cX2_read 34 = .ok (.iconst 1, 1) := by decide +kernel
theorem dX2_read_35 : decode cX2_read 35 = .ok (.isub, 1) := by decide +kernel
theorem dX2_read_36 : decode cX2_read 36 = .ok (.putfield 46, 3) := by decide +kernel
theorem dX2_read_39 : decode cX2_read 39 = .ok (.return_, 1) := by decide +kernel
theorem dX2_show_0 : decode cX2_show 0 = .ok (.aload_n 0, 1) := by decide +kernel
theorem dX2_show_1 : decode cX2_show 1 = .ok (.getfield 27, 3) := by decide +kernel
theorem dX2_show_4 : decode cX2_show 4 = .ok (.aload_n 0, 1) := by decide +kernel
theorem dX2_show_5 : decode cX2_show 5 = .ok (.getfield 37, 3) := by decide +kernel
theorem dX2_show_8 : decode cX2_show 8 = .ok (.bipush 31, 2) := by decide +kernel
theorem dX2_show_10 : decode cX2_show 10 = .ok (.iand, 1) := by decide +kernel
theorem dX2_show_11 : decode cX2_show 11 = .ok (.iload_n 1, 1) := by decide +kernel
theorem dX2_show_12 : decode cX2_show 12 = .ok (.iastore, 1) := by decide +kernel
theorem dX2_show_13 : decode cX2_show 13 = .ok (.aload_n 0, 1) := by decide +kernel
theorem dX2_show_14 : decode cX2_show 14 = .ok (.dup, 1) := by decide +kernel
theorem dX2_show_15 : decode cX2_show 15 = .ok (.getfield 37, 3) := by decide +kernel
theorem dX2_show_18 : decode cX2_show 18 = .ok (.iconst 1, 1) := by decide +kernel
theorem dX2_show_19 : decode cX2_show 19 = .ok (.iadd, 1) := by decide +kernel
theorem dX2_show_20 : decode cX2_show 20 = .ok (.putfield 37, 3) := by decide +kernel
theorem dX2_show_23 : decode cX2_show 23 = .ok (.return_, 1) := by decide +kernel
theorem dX2_setGlobal_0 : decode cX2_setGlobal 0 = .ok (.iload_n 1, 1) := by decide +kernel
theorem dX2_setGlobal_1 : decode cX2_setGlobal 1 = .ok (.ifCond .lt 19, 3) := by decide +kernel
theorem dX2_setGlobal_4 : decode cX2_setGlobal 4 = .ok (.iload_n 1, 1) := by decide +kernel
theorem dX2_setGlobal_5 : decode cX2_setGlobal 5 = .ok (.aload_n 0, 1) := by decide +kernel
theorem dX2_setGlobal_6 : decode cX2_setGlobal 6 = .ok (.getfield 11, 3) := by decide +kernel
theorem dX2_setGlobal_9 : decode cX2_setGlobal 9 = .ok (.arraylength, 1) := by decide +kernel
theorem dX2_setGlobal_10 : decode cX2_setGlobal 10 = .ok (.if_icmp .ge 10, 3) := by decide +kernel
theorem dX2_setGlobal_13 : decode cX2_setGlobal 13 = .ok (.aload_n 0, 1) := by decide +kernel
theorem dX2_setGlobal_14 : decode cX2_setGlobal 14 = .ok (.getfield 11, 3) := by decide +kernel
theorem dX2_setGlobal_17 : decode cX2_setGlobal 17 = .ok (.iload_n 1, 1) := by decide +kernel
theorem dX2_setGlobal_18 : decode cX2_setGlobal 18 = .ok (.iload_n 2, 1) := by decide +kernel
theorem dX2_setGlobal_19 : decode cX2_setGlobal 19 = .ok (.iastore, 1) := by decide +kernel
theorem dX2_setGlobal_20 : decode cX2_setGlobal 20 = .ok (.return_, 1) := by decide +kernel
theorem dX2_localAt_0 : decode cX2_localAt 0 = .ok (.aload_n 0, 1) := by decide +kernel
theorem dX2_localAt_1 : decode cX2_localAt 1 = .ok (.getfield 40, 3) := by decide +kernel
theorem dX2_localAt_4 : decode cX2_localAt 4 = .ok (.iconst 1, 1) := by decide +kernel
theorem dX2_localAt_5 : decode cX2_localAt 5 = .ok (.isub, 1) := by decide +kernel
theorem dX2_localAt_6 : decode cX2_localAt 6 = .ok (.bipush 8, 2) := by decide +kernel
theorem dX2_localAt_8 : decode cX2_localAt 8 = .ok (.imul, 1) := by decide +kernel
theorem dX2_localAt_9 : decode cX2_localAt 9 = .ok (.iload_n 1, 1) := by decide +kernel
theorem dX2_localAt_10 : decode cX2_localAt 10 = .ok (.iadd, 1) := by decide +kernel
theorem dX2_localAt_11 : decode cX2_localAt 11 = .ok (.istore_n 2, 1) := by decide +kernel
theorem dX2_localAt_12 : decode cX2_localAt 12 = .ok (.iload_n 2, 1) := by decide +kernel
theorem dX2_localAt_13 : decode cX2_localAt 13 = .ok (.ifCond .lt 21, 3) := by decide +kernel
theorem dX2_localAt_16 : decode cX2_localAt 16 = .ok (.iload_n 2, 1) := by decide +kernel
theorem dX2_localAt_17 : decode cX2_localAt 17 = .ok (.aload_n 0, 1) := by decide +kernel
theorem dX2_localAt_18 : decode cX2_localAt 18 = .ok (.getfield 18, 3) := by decide +kernel
theorem dX2_localAt_21 : decode cX2_localAt 21 = .ok (.arraylength, 1) := by decide +kernel
theorem dX2_localAt_22 : decode cX2_localAt 22 = .ok (.if_icmp .ge 12, 3) := by decide +kernel
theorem dX2_localAt_25 : decode cX2_localAt 25 = .ok (.aload_n 0, 1) := by decide +kernel
theorem dX2_localAt_26 : decode cX2_localAt 26 = .ok (.getfield 18, 3) := by decide +kernel
theorem dX2_localAt_29 : decode cX2_localAt 29 = .ok (.iload_n 2, 1) := by decide +kernel
theorem dX2_localAt_30 : decode cX2_localAt 30 = .ok (.iaload, 1) := by decide +kernel
theorem dX2_localAt_31 : decode cX2_localAt 31 = .ok (.goto 4, 3) := by decide +kernel
theorem dX2_localAt_34 : decode cX2_localAt 34 = .ok (.iconst 0, 1) := by decide +kernel
theorem dX2_localAt_35 : decode cX2_localAt 35 = .ok (.ireturn, 1) := by decide +kernel
theorem dX2_setLocal_0 : decode cX2_setLocal 0 = .ok (.aload_n 0, 1) := by decide +kernel
theorem dX2_setLocal_1 : decode cX2_setLocal 1 = .ok (.getfield 40, 3) := by decide +kernel
theorem dX2_setLocal_4 : decode cX2_setLocal 4 = .ok (.iconst 1, 1) := by decide +kernel
theorem dX2_setLocal_5 : decode cX2_setLocal 5 = .ok (.isub, 1) := by decide +kernel
theorem dX2_setLocal_6 : decode cX2_setLocal 6 = .ok (.bipush 8, 2) := by decide +kernel
theorem dX2_setLocal_8 : decode cX2_setLocal 8 = .ok (.imul, 1) := by decide +kernel
theorem dX2_setLocal_9 : decode cX2_setLocal 9 = .ok (.iload_n 1, 1) := by decide +kernel
theorem dX2_setLocal_10 : decode cX2_setLocal 10 = .ok (.iadd, 1) := by decide +kernel
theorem dX2_setLocal_11 : decode cX2_setLocal 11 = .ok (.istore_n 3, 1) := by decide +kernel
theorem dX2_setLocal_12 : decode cX2_setLocal 12 = .ok (.iload_n 3, 1) := by decide +kernel
theorem dX2_setLocal_13 : decode cX2_setLocal 13 = .ok (.ifCond .lt 19, 3) := by decide +kernel
theorem dX2_setLocal_16 : decode cX2_setLocal 16 = .ok (.iload_n 3, 1) := by decide +kernel
theorem dX2_setLocal_17 : decode cX2_setLocal 17 = .ok (.aload_n 0, 1) := by decide +kernel
theorem dX2_setLocal_18 : decode cX2_setLocal 18 = .ok (.getfield 18, 3) := by decide +kernel
theorem dX2_setLocal_21 : decode cX2_setLocal 21 = .ok (.arraylength, 1) := by decide +kernel
theorem dX2_setLocal_22 : decode cX2_setLocal 22 = .ok (.if_icmp .ge 10, 3) := by decide +kernel
theorem dX2_setLocal_25 : decode cX2_setLocal 25 = .ok (.aload_n 0, 1) := by decide +kernel
theorem dX2_setLocal_26 : decode cX2_setLocal 26 = .ok (.getfield 18, 3) := by decide +kernel
theorem dX2_setLocal_29 : decode cX2_setLocal 29 = .ok (.iload_n 3, 1) := by decide +kernel
theorem dX2_setLocal_30 : decode cX2_setLocal 30 = .ok (.iload_n 2, 1) := by decide +kernel
theorem dX2_setLocal_31 : decode cX2_setLocal 31 = .ok (.iastore, 1) := by decide +kernel
theorem dX2_setLocal_32 : decode cX2_setLocal 32 = .ok (.return_, 1) := by decide +kernel
theorem dX2_getPlace_0 : decode cX2_getPlace 0 = .ok (.aload_n 0, 1) := by decide +kernel
theorem dX2_getPlace_1 : decode cX2_getPlace 1 = .ok (.invokevirtual 90, 3) := by decide +kernel
theorem dX2_getPlace_4 : decode cX2_getPlace 4 = .ok (.istore_n 2, 1) := by decide +kernel
theorem dX2_getPlace_5 : decode cX2_getPlace 5 = .ok (.iload_n 2, 1) := by decide +kernel
theorem dX2_getPlace_6 : decode cX2_getPlace 6 = .ok (.ifCond .lt 9, 3) := by decide +kernel
theorem dX2_getPlace_9 : decode cX2_getPlace 9 = .ok (.iload_n 2, 1) := by decide +kernel
theorem dX2_getPlace_10 : decode cX2_getPlace 10 = .ok (.bipush 8, 2) := by decide +kernel
theorem dX2_getPlace_12 : decode cX2_getPlace 12 = .ok (.if_icmp .lt 11, 3) := by decide +kernel
theorem dX2_getPlace_15 : decode cX2_getPlace 15 = .ok (.aload_n 0, 1) := by decide +kernel
theorem dX2_getPlace_16 : decode cX2_getPlace 16 = .ok (.iconst 5, 1) := by decide +kernel
theorem dX2_getPlace_17 : decode cX2_getPlace 17 = .ok (.putfield 30, 3) := by decide +kernel
theorem dX2_getPlace_20 : decode cX2_getPlace 20 = .ok (.goto 13, 3) := by decide +kernel
theorem dX2_getPlace_23 : decode cX2_getPlace 23 = .ok (.aload_n 0, 1) := by decide +kernel
theorem dX2_getPlace_24 : decode cX2_getPlace 24 = .ok (.aload_n 0, 1) := by decide +kernel
theorem dX2_getPlace_25 : decode cX2_getPlace 25 = .ok (.iload_n 1, 1) := by decide +kernel
theorem dX2_getPlace_26 : decode cX2_getPlace 26 = .ok (.iload_n 2, 1) := by decide +kernel
theorem dX2_getPlace_27 : decode cX2_getPlace 27 = .ok (.invokevirtual 135, 3) := by decide +kernel
theorem dX2_getPlace_30 : decode cX2_getPlace 30 = .ok (.invokevirtual 99, 3) := by decide +kernel
theorem dX2_getPlace_33 : decode cX2_getPlace 33 = .ok (.return_, 1) := by decide +kernel
theorem dX2_setPlace_0 : decode cX2_setPlace 0 = .ok (.aload_n 0, 1) := by decide +kernel
theorem dX2_setPlace_1 : decode cX2_setPlace 1 = .ok (.invokevirtual 90, 3) := by decide +kernel
theorem dX2_setPlace_4 : decode cX2_setPlace 4 = .ok (.istore_n 2, 1) := by decide +kernel
theorem dX2_setPlace_5 : decode cX2_setPlace 5 = .ok (.aload_n 0, 1) := by decide +kernel
theorem dX2_setPlace_6 : decode cX2_setPlace 6 = .ok (.invokevirtual 90, 3) := by decide +kernel
theorem dX2_setPlace_9 : decode cX2_setPlace 9 = .ok (.istore_n 3, 1) := by decide +kernel
theorem dX2_setPlace_10 : decode cX2_setPlace 10 = .ok (.iload_n 1, 1) := by decide +kernel
theorem dX2_setPlace_11 : decode cX2_setPlace 11 = .ok (.bipush 8, 2) := by decide +kernel
theorem dX2_setPlace_13 : decode cX2_setPlace 13 = .ok (.imul, 1) := by decide +kernel
theorem dX2_setPlace_14 : decode cX2_setPlace 14 = .ok (.iload_n 3, 1) := by decide +kernel
theorem dX2_setPlace_15 : decode cX2_setPlace 15 = .ok (.iadd, 1) := by decide +kernel
theorem dX2_setPlace_16 : decode cX2_setPlace 16 = .ok (.istore 4, 2) := by decide +kernel
theorem dX2_setPlace_18 : decode cX2_setPlace 18 = .ok (.iload_n 3, 1) := by decide +kernel
theorem dX2_setPlace_19 : decode cX2_setPlace 19 = .ok (.ifCond .lt 9, 3) := by decide +kernel
theorem dX2_setPlace_22 : decode cX2_setPlace 22 = .ok (.iload_n 3, 1) := by decide +kernel
theorem dX2_setPlace_23 : decode cX2_setPlace 23 = .ok (.bipush 8, 2) := by decide +kernel
theorem dX2_setPlace_25 : decode cX2_setPlace 25 = .ok (.if_icmp .lt 11, 3) := by decide +kernel
theorem dX2_setPlace_28 : decode cX2_setPlace 28 = .ok (.aload_n 0, 1) := by decide +kernel
theorem dX2_setPlace_29 : decode cX2_setPlace 29 = .ok (.iconst 5, 1) := by decide +kernel
theorem dX2_setPlace_30 : decode cX2_setPlace 30 = .ok (.putfield 30, 3) := by decide +kernel
theorem dX2_setPlace_33 : decode cX2_setPlace 33 = .ok (.goto 26, 3) := by decide +kernel
theorem dX2_setPlace_36 : decode cX2_setPlace 36 = .ok (.iload 4, 2) := by decide +kernel
theorem dX2_setPlace_38 : decode cX2_setPlace 38 = .ok (.ifCond .lt 21, 3) := by decide +kernel
theorem dX2_setPlace_41 : decode cX2_setPlace 41 = .ok (.iload 4, 2) := by decide +kernel
theorem dX2_setPlace_43 : decode cX2_setPlace 43 = .ok (.aload_n 0, 1) := by decide +kernel
theorem dX2_setPlace_44 : decode cX2_setPlace 44 = .ok (.getfield 15, 3) := by decide +kernel
theorem dX2_setPlace_47 : decode cX2_setPlace 47 = .ok (.arraylength, 1) := by decide +kernel
theorem dX2_setPlace_48 : decode cX2_setPlace 48 = .ok (.if_icmp .ge 11, 3) := by decide +kernel
theorem dX2_setPlace_51 : decode cX2_setPlace 51 = .ok (.aload_n 0, 1) := by decide +kernel
theorem dX2_setPlace_52 : decode cX2_setPlace 52 = .ok (.getfield 15, 3) := by decide +kernel
theorem dX2_setPlace_55 : decode cX2_setPlace 55 = .ok (.iload 4, 2) := by decide +kernel
theorem dX2_setPlace_57 : decode cX2_setPlace 57 = .ok (.iload_n 2, 1) := by decide +kernel
theorem dX2_setPlace_58 : decode cX2_setPlace 58 = .ok (.iastore, 1) := by decide +kernel
theorem dX2_setPlace_59 : decode cX2_setPlace 59 = .ok (.return_, 1) := by decide +kernel
theorem dX2_call_0 : decode cX2_call 0 = .ok (.aload_n 0, 1) := by decide +kernel
theorem dX2_call_1 : decode cX2_call 1 = .ok (.getfield 40, 3) := by decide +kernel
theorem dX2_call_4 : decode cX2_call 4 = .ok (.bipush 10, 2) := by decide +kernel
theorem dX2_call_6 : decode cX2_call 6 = .ok (.if_icmp .lt 12, 3) := by decide +kernel
theorem dX2_call_9 : decode cX2_call 9 = .ok (.aload_n 0, 1) := by decide +kernel
theorem dX2_call_10 : decode cX2_call 10 = .ok (.bipush 6, 2) := by decide +kernel
theorem dX2_call_12 : decode cX2_call 12 = .ok (.putfield 30, 3) := by decide +kernel
theorem dX2_call_15 : decode cX2_call 15 = .ok (.goto 8, 3) := by decide +kernel
theorem dX2_call_18 : decode cX2_call 18 = .ok (.aload_n 0, 1) := by decide +kernel
theorem dX2_call_19 : decode cX2_call 19 = .ok (.iload_n 1, 1) := by decide +kernel
theorem dX2_call_20 : decode cX2_call 20 = .ok (.invokevirtual 60, 3) := by decide +kernel
theorem dX2_call_23 : decode cX2_call 23 = .ok (.return_, 1) := by decide +kernel
theorem dX2_enter_0 : decode cX2_enter 0 = .ok (.aload_n 0, 1) := by decide +kernel
theorem dX2_enter_1 : decode cX2_enter 1 = .ok (.getfield 40, 3) := by decide +kernel
theorem dX2_enter_4 : decode cX2_enter 4 = .ok (.ifCond .lt 38, 3) := by decide +kernel
theorem dX2_enter_7 : decode cX2_enter 7 = .ok (.aload_n 0, 1) := by decide +kernel
theorem dX2_enter_8 : decode cX2_enter 8 = .ok (.getfield 40, 3) := by decide +kernel
theorem dX2_enter_11 : decode cX2_enter 11 = .ok (.aload_n 0, 1) := by decide +kernel
theorem dX2_enter_12 : decode cX2_enter 12 = .ok (.getfield 21, 3) := by decide +kernel
theorem dX2_enter_15 : decode cX2_enter 15 = .ok (.arraylength, 1) := by decide +kernel
theorem dX2_enter_16 : decode cX2_enter 16 = .ok (.if_icmp .ge 26, 3) := by decide +kernel
theorem dX2_enter_19 : decode cX2_enter 19 = .ok (.aload_n 0, 1) := by decide +kernel
theorem dX2_enter_20 : decode cX2_enter 20 = .ok (.getfield 21, 3) := by decide +kernel
theorem dX2_enter_23 : decode cX2_enter 23 = .ok (.aload_n 0, 1) := by decide +kernel
theorem dX2_enter_24 : decode cX2_enter 24 = .ok (.getfield 40, 3) := by decide +kernel
theorem dX2_enter_27 : decode cX2_enter 27 = .ok (.aload_n 0, 1) := by decide +kernel
theorem dX2_enter_28 : decode cX2_enter 28 = .ok (.getfield 46, 3) := by decide +kernel
theorem dX2_enter_31 : decode cX2_enter 31 = .ok (.iastore, 1) := by decide +kernel
theorem dX2_enter_32 : decode cX2_enter 32 = .ok (.aload_n 0, 1) := by decide +kernel
theorem dX2_enter_33 : decode cX2_enter 33 = .ok (.dup, 1) := by decide +kernel
theorem dX2_enter_34 : decode cX2_enter 34 = .ok (.getfield 40, 3) := by decide +kernel
theorem dX2_enter_37 : decode cX2_enter 37 = .ok (.iconst 1, 1) := by decide +kernel
theorem dX2_enter_38 : decode cX2_enter 38 = .ok (.iadd, 1) := by decide +kernel
theorem dX2_enter_39 : decode cX2_enter 39 = .ok (.putfield 40, 3) := by decide +kernel
theorem dX2_enter_42 : decode cX2_enter 42 = .ok (.iconst 0, 1) := by decide +kernel
theorem dX2_enter_43 : decode cX2_enter 43 = .ok (.istore_n 2, 1) := by decide +kernel
theorem dX2_enter_44 : decode cX2_enter 44 = .ok (.iload_n 2, 1) := by decide +kernel
theorem dX2_enter_45 : decode cX2_enter 45 = .ok (.bipush 8, 2) := by decide +kernel
theorem dX2_enter_47 : decode cX2_enter 47 = .ok (.if_icmp .ge 15, 3) := by decide +kernel
theorem dX2_enter_50 : decode cX2_enter 50 = .ok (.aload_n 0, 1) := by decide +kernel
theorem dX2_enter_51 : decode cX2_enter 51 = .ok (.iload_n 2, 1) := by decide +kernel
theorem dX2_enter_52 : decode cX2_enter 52 = .ok (.iconst 0, 1) := by decide +kernel
theorem dX2_enter_53 : decode cX2_enter 53 = .ok (.invokevirtual 114, 3) := by decide +kernel
theorem dX2_enter_56 : decode cX2_enter 56 = .ok (.iinc 2 1, 3) := by decide +kernel
theorem dX2_enter_59 : decode cX2_enter 59 = .ok (.goto (-15), 3) := by decide +kernel
theorem dX2_enter_62 : decode cX2_enter 62 = .ok (.aload_n 0, 1) := by decide +kernel
theorem dX2_enter_63 : decode cX2_enter 63 = .ok (.getfield 49, 3) := by decide +kernel
theorem dX2_enter_66 : decode cX2_enter 66 = .ok (.iload_n 1, 1) := by decide +kernel
theorem dX2_enter_67 : decode cX2_enter 67 = .ok (.invokevirtual 139, 3) := by decide +kernel
theorem dX2_enter_70 : decode cX2_enter 70 = .ok (.iconst 1, 1) := by decide +kernel
theorem dX2_enter_71 : decode cX2_enter 71 = .ok (.isub, 1) := by decide +kernel
theorem dX2_enter_72 : decode cX2_enter 72 = .ok (.istore_n 2, 1) := by decide +kernel
theorem dX2_enter_73 : decode cX2_enter 73 = .ok (.iload_n 2, 1) := by decide +kernel
theorem dX2_enter_74 : decode cX2_enter 74 = .ok (.ifCond .lt 18, 3) := by decide +kernel
theorem dX2_enter_77 : decode cX2_enter 77 = .ok (.aload_n 0, 1) := by decide +kernel
theorem dX2_enter_78 : decode cX2_enter 78 = .ok (.iload_n 2, 1) := by decide +kernel
theorem dX2_enter_79 : decode cX2_enter 79 = .ok (.aload_n 0, 1) := by decide +kernel
theorem dX2_enter_80 : decode cX2_enter 80 = .ok (.invokevirtual 90, 3) := by decide +kernel
theorem dX2_enter_83 : decode cX2_enter 83 = .ok (.invokevirtual 114, 3) := by decide +kernel
theorem dX2_enter_86 : decode cX2_enter 86 = .ok (.iinc 2 (-1), 3) := by decide +kernel
theorem dX2_enter_89 : decode cX2_enter 89 = .ok (.goto (-16), 3) := by decide +kernel
theorem dX2_enter_92 : decode cX2_enter 92 = .ok (.aload_n 0, 1) := by decide +kernel
theorem dX2_enter_93 : decode cX2_enter 93 = .ok (.aload_n 0, 1) := by decide +kernel
theorem dX2_enter_94 : decode cX2_enter 94 = .ok (.getfield 49, 3) := by decide +kernel
theorem dX2_enter_97 : decode cX2_enter 97 = .ok (.iload_n 1, 1) := by decide +kernel
theorem dX2_enter_98 : decode cX2_enter 98 = .ok (.invokevirtual 142, 3) := by decide +kernel
theorem dX2_enter_101 : decode cX2_enter 101 = .ok (.putfield 46, 3) := by decide +kernel
theorem dX2_enter_104 : decode cX2_enter 104 = .ok (.return_, 1) := by decide +kernel
theorem dX2_leave_0 : decode cX2_leave 0 = .ok (.aload_n 0, 1) := by decide +kernel
theorem dX2_leave_1 : decode cX2_leave 1 = .ok (.invokevirtual 90, 3) := by decide +kernel
theorem dX2_leave_4 : decode cX2_leave 4 = .ok (.istore_n 1, 1) := by decide +kernel
theorem dX2_leave_5 : decode cX2_leave 5 = .ok (.aload_n 0, 1) := by decide +kernel
theorem dX2_leave_6 : decode cX2_leave 6 = .ok (.dup, 1) := by decide +kernel
theorem dX2_leave_7 : decode cX2_leave 7 = .ok (.getfield 40, 3) := by decide +kernel
theorem dX2_leave_10 : decode cX2_leave 10 = .ok (.iconst 1, 1) := by decide +kernel
theorem dX2_leave_11 : decode cX2_leave 11 = .ok (.isub, 1) := by decide +kernel
theorem dX2_leave_12 : decode cX2_leave 12 = .ok (.putfield 40, 3) := by decide +kernel
theorem dX2_leave_15 : decode cX2_leave 15 = .ok (.aload_n 0, 1) := by decide +kernel
theorem dX2_leave_16 : decode cX2_leave 16 = .ok (.getfield 40, 3) := by decide +kernel
theorem dX2_leave_19 : decode cX2_leave 19 = .ok (.ifCond .le 36, 3) := by decide +kernel
theorem dX2_leave_22 : decode cX2_leave 22 = .ok (.aload_n 0, 1) := by decide +kernel
theorem dX2_leave_23 : decode cX2_leave 23 = .ok (.getfield 40, 3) := by decide +kernel
theorem dX2_leave_26 : decode cX2_leave 26 = .ok (.aload_n 0, 1) := by decide +kernel
theorem dX2_leave_27 : decode cX2_leave 27 = .ok (.getfield 21, 3) := by decide +kernel
theorem dX2_leave_30 : decode cX2_leave 30 = .ok (.arraylength, 1) := by decide +kernel
theorem dX2_leave_31 : decode cX2_leave 31 = .ok (.if_icmp .ge 24, 3) := by decide +kernel
theorem dX2_leave_34 : decode cX2_leave 34 = .ok (.aload_n 0, 1) := by decide +kernel
theorem dX2_leave_35 : decode cX2_leave 35 = .ok (.aload_n 0, 1) := by decide +kernel
theorem dX2_leave_36 : decode cX2_leave 36 = .ok (.getfield 21, 3) := by decide +kernel
theorem dX2_leave_39 : decode cX2_leave 39 = .ok (.aload_n 0, 1) := by decide +kernel
theorem dX2_leave_40 : decode cX2_leave 40 = .ok (.getfield 40, 3) := by decide +kernel
theorem dX2_leave_43 : decode cX2_leave 43 = .ok (.iaload, 1) := by decide +kernel
theorem dX2_leave_44 : decode cX2_leave 44 = .ok (.putfield 46, 3) := by decide +kernel
theorem dX2_leave_47 : decode cX2_leave 47 = .ok (.aload_n 0, 1) := by decide +kernel
theorem dX2_leave_48 : decode cX2_leave 48 = .ok (.iload_n 1, 1) := by decide +kernel
theorem dX2_leave_49 : decode cX2_leave 49 = .ok (.invokevirtual 99, 3) := by decide +kernel
theorem dX2_leave_52 : decode cX2_leave 52 = .ok (.goto 13, 3) := by decide +kernel
theorem dX2_leave_55 : decode cX2_leave 55 = .ok (.aload_n 0, 1) := by decide +kernel
theorem dX2_leave_56 : decode cX2_leave 56 = .ok (.iconst 0, 1) := by decide +kernel
theorem dX2_leave_57 : decode cX2_leave 57 = .ok (.putfield 40, 3) := by decide +kernel
theorem dX2_leave_60 : decode cX2_leave 60 = .ok (.aload_n 0, 1) := by decide +kernel
theorem dX2_leave_61 : decode cX2_leave 61 = .ok (.iconst 3, 1) := by decide +kernel
theorem dX2_leave_62 : decode cX2_leave 62 = .ok (.putfield 30, 3) := by decide +kernel
theorem dX2_leave_65 : decode cX2_leave 65 = .ok (.return_, 1) := by decide +kernel
theorem dX3_init_0 : decode cX3_init 0 = .ok (.aload_n 0, 1) := by decide +kernel
theorem dX3_init_1 : decode cX3_init 1 = .ok (.invokespecial 3, 3) := by decide +kernel
theorem dX3_init_4 : decode cX3_init 4 = .ok (.aload_n 0, 1) := by decide +kernel
theorem dX3_init_5 : decode cX3_init 5 = .ok (.sipush 160, 3) := by decide +kernel
theorem dX3_init_8 : decode cX3_init 8 = .ok (.newarray .int, 2) := by decide +kernel
theorem dX3_init_10 : decode cX3_init 10 = .ok (.putfield 9, 3) := by decide +kernel
theorem dX3_init_13 : decode cX3_init 13 = .ok (.aload_n 0, 1) := by decide +kernel
theorem dX3_init_14 : decode cX3_init 14 = .ok (.sipush 160, 3) := by decide +kernel
theorem dX3_init_17 : decode cX3_init 17 = .ok (.newarray .int, 2) := by decide +kernel
theorem dX3_init_19 : decode cX3_init 19 = .ok (.putfield 15, 3) := by decide +kernel
theorem dX3_init_22 : decode cX3_init 22 = .ok (.aload_n 0, 1) := by decide +kernel
theorem dX3_init_23 : decode cX3_init 23 = .ok (.bipush 6, 2) := by decide +kernel
theorem dX3_init_25 : decode cX3_init 25 = .ok (.newarray .int, 2) := by decide +kernel
theorem dX3_init_27 : decode cX3_init 27 = .ok (.putfield 18, 3) := by decide +kernel
theorem dX3_init_30 : decode cX3_init 30 = .ok (.aload_n 0, 1) := by decide +kernel
theorem dX3_init_31 : decode cX3_init 31 = .ok (.bipush 6, 2) := by decide +kernel
theorem dX3_init_33 : decode cX3_init 33 = .ok (.newarray .int, 2) := by decide +kernel
theorem dX3_init_35 : decode cX3_init 35 = .ok (.putfield 21, 3) := by decide +kernel
theorem dX3_init_38 : decode cX3_init 38 = .ok (.aload_n 0, 1) := by decide +kernel
theorem dX3_init_39 : decode cX3_init 39 = .ok (.iconst 0, 1) := by decide +kernel
theorem dX3_init_40 : decode cX3_init 40 = .ok (.putfield 24, 3) := by decide +kernel
theorem dX3_init_43 : decode cX3_init 43 = .ok (.aload_n 0, 1) := by decide +kernel
theorem dX3_init_44 : decode cX3_init 44 = .ok (.iconst 0, 1) := by decide +kernel
theorem dX3_init_45 : decode cX3_init 45 = .ok (.putfield 28, 3) := by decide +kernel
theorem dX3_init_48 : decode cX3_init 48 = .ok (.return_, 1) := by decide +kernel
theorem dX3_functions_0 : decode cX3_functions 0 = .ok (.aload_n 0, 1) := by decide +kernel
theorem dX3_functions_1 : decode cX3_functions 1 = .ok (.getfield 28, 3) := by decide +kernel
theorem dX3_functions_4 : decode cX3_functions 4 = .ok (.ireturn, 1) := by decide +kernel
theorem dX3_stepAt_0 : decode cX3_stepAt 0 = .ok (.iload_n 1, 1) := by decide +kernel
theorem dX3_stepAt_1 : decode cX3_stepAt 1 = .ok (.ifCond .lt 21, 3) := by decide +kernel
theorem dX3_stepAt_4 : decode cX3_stepAt 4 = .ok (.iload_n 1, 1) := by decide +kernel
theorem dX3_stepAt_5 : decode cX3_stepAt 5 = .ok (.aload_n 0, 1) := by decide +kernel
theorem dX3_stepAt_6 : decode cX3_stepAt 6 = .ok (.getfield 9, 3) := by decide +kernel
theorem dX3_stepAt_9 : decode cX3_stepAt 9 = .ok (.arraylength, 1) := by decide +kernel
theorem dX3_stepAt_10 : decode cX3_stepAt 10 = .ok (.if_icmp .ge 12, 3) := by decide +kernel
theorem dX3_stepAt_13 : decode cX3_stepAt 13 = .ok (.aload_n 0, 1) := by decide +kernel
theorem dX3_stepAt_14 : decode cX3_stepAt 14 = .ok (.getfield 9, 3) := by decide +kernel
theorem dX3_stepAt_17 : decode cX3_stepAt 17 = .ok (.iload_n 1, 1) := by decide +kernel
theorem dX3_stepAt_18 : decode cX3_stepAt 18 = .ok (.iaload, 1) := by decide +kernel
theorem dX3_stepAt_19 : decode cX3_stepAt 19 = .ok (.goto 4, 3) := by decide +kernel
theorem dX3_stepAt_22 : decode cX3_stepAt 22 = .ok (.iconst 0, 1) := by decide +kernel
theorem dX3_stepAt_23 : decode cX3_stepAt 23 = .ok (.ireturn, 1) := by decide +kernel
theorem dX3_operandAt_0 : decode cX3_operandAt 0 = .ok (.iload_n 1, 1) := by decide +kernel
theorem dX3_operandAt_1 : decode cX3_operandAt 1 = .ok (.ifCond .lt 21, 3) := by decide +kernel
theorem dX3_operandAt_4 : decode cX3_operandAt 4 = .ok (.iload_n 1, 1) := by decide +kernel
theorem dX3_operandAt_5 : decode cX3_operandAt 5 = .ok (.aload_n 0, 1) := by decide +kernel
theorem dX3_operandAt_6 : decode cX3_operandAt 6 = .ok (.getfield 15, 3) := by decide +kernel
theorem dX3_operandAt_9 : decode cX3_operandAt 9 = .ok (.arraylength, 1) := by decide +kernel
theorem dX3_operandAt_10 : decode cX3_operandAt 10 = .ok (.if_icmp .ge 12, 3) := by decide +kernel
theorem dX3_operandAt_13 : decode cX3_operandAt 13 = .ok (.aload_n 0, 1) := by decide +kernel
theorem dX3_operandAt_14 : decode cX3_operandAt 14 = .ok (.getfield 15, 3) := by decide +kernel
theorem dX3_operandAt_17 : decode cX3_operandAt 17 = .ok (.iload_n 1, 1) := by decide +kernel
theorem dX3_operandAt_18 : decode cX3_operandAt 18 = .ok (.iaload, 1) := by decide +kernel
theorem dX3_operandAt_19 : decode cX3_operandAt 19 = .ok (.goto 4, 3) := by decide +kernel
theorem dX3_operandAt_22 : decode cX3_operandAt 22 = .ok (.iconst 0, 1) := by decide +kernel
theorem dX3_operandAt_23 : decode cX3_operandAt 23 = .ok (.ireturn, 1) := by decide +kernel
theorem dX3_entryOf_0 : decode cX3_entryOf 0 = .ok (.iload_n 1, 1) := by decide +kernel
theorem dX3_entryOf_1 : decode cX3_entryOf 1 = .ok (.ifCond .lt 21, 3) := by decide +kernel
theorem dX3_entryOf_4 : decode cX3_entryOf 4 = .ok (.iload_n 1, 1) := by decide +kernel
theorem dX3_entryOf_5 : decode cX3_entryOf 5 = .ok (.aload_n 0, 1) := by decide +kernel
theorem dX3_entryOf_6 : decode cX3_entryOf 6 = .ok (.getfield 18, 3) := by decide +kernel
theorem dX3_entryOf_9 : decode cX3_entryOf 9 = .ok (.arraylength, 1) := by decide +kernel
theorem dX3_entryOf_10 : decode cX3_entryOf 10 = .ok (.if_icmp .ge 12, 3) := by decide +kernel
theorem dX3_entryOf_13 : decode cX3_entryOf 13 = .ok (.aload_n 0, 1) := by decide +kernel
theorem dX3_entryOf_14 : decode cX3_entryOf 14 = .ok (.getfield 18, 3) := by decide +kernel
theorem dX3_entryOf_17 : decode cX3_entryOf 17 = .ok (.iload_n 1, 1) := by decide +kernel
theorem dX3_entryOf_18 : decode cX3_entryOf 18 = .ok (.iaload, 1) := by decide +kernel
theorem dX3_entryOf_19 : decode cX3_entryOf 19 = .ok (.goto 4, 3) := by decide +kernel
theorem dX3_entryOf_22 : decode cX3_entryOf 22 = .ok (.iconst 0, 1) := by decide +kernel
theorem dX3_entryOf_23 : decode cX3_entryOf 23 = .ok (.ireturn, 1) := by decide +kernel
theorem dX3_parametersOf_0 : decode cX3_parametersOf 0 = .ok (.iload_n 1, 1) := by decide +kernel
theorem dX3_parametersOf_1 : decode cX3_parametersOf 1 = .ok (.ifCond .lt 23, 3) := by decide +kernel
theorem dX3_parametersOf_4 : decode cX3_parametersOf 4 = .ok (.iload_n 1, 1) := by decide +kernel
theorem dX3_parametersOf_5 : decode cX3_parametersOf 5 = .ok (.aload_n 0, 1) := by decide +kernel
theorem dX3_parametersOf_6 : decode cX3_parametersOf 6 = .ok (.getfield 21, 3) := by decide +kernel
theorem dX3_parametersOf_9 : decode cX3_parametersOf 9 = .ok (.arraylength, 1) := by decide +kernel
theorem dX3_parametersOf_10 : decode cX3_parametersOf 10 = .ok (.if_icmp .ge 14, 3) := by decide +kernel
theorem dX3_parametersOf_13 : decode cX3_parametersOf 13 = .ok (.aload_n 0, 1) := by decide +kernel
theorem dX3_parametersOf_14 : decode cX3_parametersOf 14 = .ok (.getfield 21, 3) := by decide +kernel
theorem dX3_parametersOf_17 : decode cX3_parametersOf 17 = .ok (.iload_n 1, 1) := by decide +kernel
theorem dX3_parametersOf_18 : decode cX3_parametersOf 18 = .ok (.iaload, 1) := by decide +kernel
theorem dX3_parametersOf_19 : decode cX3_parametersOf 19 = .ok (.iconst 1, 1) := by decide +kernel
theorem dX3_parametersOf_20 : decode cX3_parametersOf 20 = .ok (.isub, 1) := by decide +kernel
theorem dX3_parametersOf_21 : decode cX3_parametersOf 21 = .ok (.goto 4, 3) := by decide +kernel
theorem dX3_parametersOf_24 : decode cX3_parametersOf 24 = .ok (.iconst (-1), 1) := by decide +kernel
theorem dX3_parametersOf_25 : decode cX3_parametersOf 25 = .ok (.ireturn, 1) := by decide +kernel
theorem dX3_clear_0 : decode cX3_clear 0 = .ok (.iconst 0, 1) := by decide +kernel
theorem dX3_clear_1 : decode cX3_clear 1 = .ok (.istore_n 1, 1) := by decide +kernel
theorem dX3_clear_2 : decode cX3_clear 2 = .ok (.iload_n 1, 1) := by decide +kernel
theorem dX3_clear_3 : decode cX3_clear 3 = .ok (.bipush 6, 2) := by decide +kernel
theorem dX3_clear_5 : decode cX3_clear 5 = .ok (.if_icmp .ge 16, 3) := by decide +kernel
theorem dX3_clear_8 : decode cX3_clear 8 = .ok (.aload_n 0, 1) := by decide +kernel
theorem dX3_clear_9 : decode cX3_clear 9 = .ok (.getfield 21, 3) := by decide +kernel
theorem dX3_clear_12 : decode cX3_clear 12 = .ok (.iload_n 1, 1) := by decide +kernel
theorem dX3_clear_13 : decode cX3_clear 13 = .ok (.iconst 0, 1) := by decide +kernel
theorem dX3_clear_14 : decode cX3_clear 14 = .ok (.iastore, 1) := by decide +kernel
theorem dX3_clear_15 : decode cX3_clear 15 = .ok (.iinc 1 1, 3) := by decide +kernel
theorem dX3_clear_18 : decode cX3_clear 18 = .ok (.goto (-16), 3) := by decide +kernel
theorem dX3_clear_21 : decode cX3_clear 21 = .ok (.aload_n 0, 1) := by decide +kernel
theorem dX3_clear_22 : decode cX3_clear 22 = .ok (.iconst 0, 1) := by decide +kernel
theorem dX3_clear_23 : decode cX3_clear 23 = .ok (.putfield 24, 3) := by decide +kernel
theorem dX3_clear_26 : decode cX3_clear 26 = .ok (.aload_n 0, 1) := by decide +kernel
theorem dX3_clear_27 : decode cX3_clear 27 = .ok (.iconst 0, 1) := by decide +kernel
theorem dX3_clear_28 : decode cX3_clear 28 = .ok (.putfield 28, 3) := by decide +kernel
theorem dX3_clear_31 : decode cX3_clear 31 = .ok (.return_, 1) := by decide +kernel
theorem dX3_addFunction_0 : decode cX3_addFunction 0 = .ok (.iload_n 1, 1) := by decide +kernel
theorem dX3_addFunction_1 : decode cX3_addFunction 1 = .ok (.ifCond .lt 38, 3) := by decide +kernel
theorem dX3_addFunction_4 : decode cX3_addFunction 4 = .ok (.iload_n 1, 1) := by decide +kernel
theorem dX3_addFunction_5 : decode cX3_addFunction 5 = .ok (.bipush 6, 2) := by decide +kernel
theorem dX3_addFunction_7 : decode cX3_addFunction 7 = .ok (.if_icmp .ge 32, 3) := by decide +kernel
theorem dX3_addFunction_10 : decode cX3_addFunction 10 = .ok (.aload_n 0, 1) := by decide +kernel
theorem dX3_addFunction_11 : decode cX3_addFunction 11 = .ok (.getfield 18, 3) := by decide +kernel
theorem dX3_addFunction_14 : decode cX3_addFunction 14 = .ok (.iload_n 1, 1) := by decide +kernel
theorem dX3_addFunction_15 : decode cX3_addFunction 15 = .ok (.aload_n 0, 1) := by decide +kernel
theorem dX3_addFunction_16 : decode cX3_addFunction 16 = .ok (.getfield 24, 3) := by decide +kernel
theorem dX3_addFunction_19 : decode cX3_addFunction 19 = .ok (.iastore, 1) := by decide +kernel
theorem dX3_addFunction_20 : decode cX3_addFunction 20 = .ok (.aload_n 0, 1) := by decide +kernel
theorem dX3_addFunction_21 : decode cX3_addFunction 21 = .ok (.getfield 21, 3) := by decide +kernel
theorem dX3_addFunction_24 : decode cX3_addFunction 24 = .ok (.iload_n 1, 1) := by decide +kernel
theorem dX3_addFunction_25 : decode cX3_addFunction 25 = .ok (.iload_n 2, 1) := by decide +kernel
theorem dX3_addFunction_26 : decode cX3_addFunction 26 = .ok (.iconst 1, 1) := by decide +kernel
theorem dX3_addFunction_27 : decode cX3_addFunction 27 = .ok (.iadd, 1) := by decide +kernel
theorem dX3_addFunction_28 : decode cX3_addFunction 28 = .ok (.iastore, 1) := by decide +kernel
theorem dX3_addFunction_29 : decode cX3_addFunction 29 = .ok (.aload_n 0, 1) := by decide +kernel
theorem dX3_addFunction_30 : decode cX3_addFunction 30 = .ok (.dup, 1) := by decide +kernel
theorem dX3_addFunction_31 : decode cX3_addFunction 31 = .ok (.getfield 28, 3) := by decide +kernel
theorem dX3_addFunction_34 : decode cX3_addFunction 34 = .ok (.iconst 1, 1) := by decide +kernel
theorem dX3_addFunction_35 : decode cX3_addFunction 35 = .ok (.iadd, 1) := by decide +kernel
theorem dX3_addFunction_36 : decode cX3_addFunction 36 = .ok (.putfield 28, 3) := by decide +kernel
theorem dX3_addFunction_39 : decode cX3_addFunction 39 = .ok (.return_, 1) := by decide +kernel
theorem dX3_add_0 : decode cX3_add 0 = .ok (.aload_n 0, 1) := by decide +kernel
theorem dX3_add_1 : decode cX3_add 1 = .ok (.getfield 24, 3) := by decide +kernel
theorem dX3_add_4 : decode cX3_add 4 = .ok (.istore_n 3, 1) := by decide +kernel
theorem dX3_add_5 : decode cX3_add 5 = .ok (.iload_n 3, 1) := by decide +kernel
theorem dX3_add_6 : decode cX3_add 6 = .ok (.ifCond .lt 45, 3) := by decide +kernel
theorem dX3_add_9 : decode cX3_add 9 = .ok (.iload_n 3, 1) := by decide +kernel
theorem dX3_add_10 : decode cX3_add 10 = .ok (.aload_n 0, 1) := by decide +kernel
theorem dX3_add_11 : decode cX3_add 11 = .ok (.getfield 9, 3) := by decide +kernel
theorem dX3_add_14 : decode cX3_add 14 = .ok (.arraylength, 1) := by decide +kernel
theorem dX3_add_15 : decode cX3_add 15 = .ok (.if_icmp .ge 36, 3) := by decide +kernel
theorem dX3_add_18 : decode cX3_add 18 = .ok (.iload_n 3, 1) := by decide +kernel
theorem dX3_add_19 : decode cX3_add 19 = .ok (.aload_n 0, 1) := by decide +kernel
theorem dX3_add_20 : decode cX3_add 20 = .ok (.getfield 15, 3) := by decide +kernel
theorem dX3_add_23 : decode cX3_add 23 = .ok (.arraylength, 1) := by decide +kernel
theorem dX3_add_24 : decode cX3_add 24 = .ok (.if_icmp .ge 27, 3) := by decide +kernel
theorem dX3_add_27 : decode cX3_add 27 = .ok (.aload_n 0, 1) := by decide +kernel
theorem dX3_add_28 : decode cX3_add 28 = .ok (.getfield 9, 3) := by decide +kernel
theorem dX3_add_31 : decode cX3_add 31 = .ok (.iload_n 3, 1) := by decide +kernel
theorem dX3_add_32 : decode cX3_add 32 = .ok (.iload_n 1, 1) := by decide +kernel
theorem dX3_add_33 : decode cX3_add 33 = .ok (.iastore, 1) := by decide +kernel
theorem dX3_add_34 : decode cX3_add 34 = .ok (.aload_n 0, 1) := by decide +kernel
theorem dX3_add_35 : decode cX3_add 35 = .ok (.getfield 15, 3) := by decide +kernel
theorem dX3_add_38 : decode cX3_add 38 = .ok (.iload_n 3, 1) := by decide +kernel
theorem dX3_add_39 : decode cX3_add 39 = .ok (.iload_n 2, 1) := by decide +kernel
theorem dX3_add_40 : decode cX3_add 40 = .ok (.iastore, 1) := by decide +kernel
theorem dX3_add_41 : decode cX3_add 41 = .ok (.aload_n 0, 1) := by decide +kernel
theorem dX3_add_42 : decode cX3_add 42 = .ok (.dup, 1) := by decide +kernel
theorem dX3_add_43 : decode cX3_add 43 = .ok (.getfield 24, 3) := by decide +kernel
theorem dX3_add_46 : decode cX3_add 46 = .ok (.iconst 1, 1) := by decide +kernel
theorem dX3_add_47 : decode cX3_add 47 = .ok (.iadd, 1) := by decide +kernel
theorem dX3_add_48 : decode cX3_add 48 = .ok (.putfield 24, 3) := by decide +kernel
theorem dX3_add_51 : decode cX3_add 51 = .ok (.iload_n 3, 1) := by decide +kernel
theorem dX3_add_52 : decode cX3_add 52 = .ok (.ireturn, 1) := by decide +kernel
theorem dX3_aim_0 : decode cX3_aim 0 = .ok (.iload_n 1, 1) := by decide +kernel
theorem dX3_aim_1 : decode cX3_aim 1 = .ok (.ifCond .lt 22, 3) := by decide +kernel
theorem dX3_aim_4 : decode cX3_aim 4 = .ok (.iload_n 1, 1) := by decide +kernel
theorem dX3_aim_5 : decode cX3_aim 5 = .ok (.aload_n 0, 1) := by decide +kernel
theorem dX3_aim_6 : decode cX3_aim 6 = .ok (.getfield 15, 3) := by decide +kernel
theorem dX3_aim_9 : decode cX3_aim 9 = .ok (.arraylength, 1) := by decide +kernel
theorem dX3_aim_10 : decode cX3_aim 10 = .ok (.if_icmp .ge 13, 3) := by decide +kernel
theorem dX3_aim_13 : decode cX3_aim 13 = .ok (.aload_n 0, 1) := by decide +kernel
theorem dX3_aim_14 : decode cX3_aim 14 = .ok (.getfield 15, 3) := by decide +kernel
theorem dX3_aim_17 : decode cX3_aim 17 = .ok (.iload_n 1, 1) := by decide +kernel
theorem dX3_aim_18 : decode cX3_aim 18 = .ok (.aload_n 0, 1) := by decide +kernel
theorem dX3_aim_19 : decode cX3_aim 19 = .ok (.getfield 24, 3) := by decide +kernel
theorem dX3_aim_22 : decode cX3_aim 22 = .ok (.iastore, 1) := by decide +kernel
theorem dX3_aim_23 : decode cX3_aim 23 = .ok (.return_, 1) := by decide +kernel
theorem dX3_copy_0 : decode cX3_copy 0 = .ok (.iconst 0, 1) := by decide +kernel
theorem dX3_copy_1 : decode cX3_copy 1 = .ok (.istore_n 2, 1) := by decide +kernel
theorem dX3_copy_2 : decode cX3_copy 2 = .ok (.iload_n 2, 1) := by decide +kernel
theorem dX3_copy_3 : decode cX3_copy 3 = .ok (.sipush 160, 3) := by decide +kernel
theorem dX3_copy_6 : decode cX3_copy 6 = .ok (.if_icmp .ge 33, 3) := by decide +kernel
theorem dX3_copy_9 : decode cX3_copy 9 = .ok (.aload_n 0, 1) := by decide +kernel
theorem dX3_copy_10 : decode cX3_copy 10 = .ok (.getfield 9, 3) := by decide +kernel
theorem dX3_copy_13 : decode cX3_copy 13 = .ok (.iload_n 2, 1) := by decide +kernel
theorem dX3_copy_14 : decode cX3_copy 14 = .ok (.aload_n 1, 1) := by decide +kernel
theorem dX3_copy_15 : decode cX3_copy 15 = .ok (.getfield 9, 3) := by decide +kernel
theorem dX3_copy_18 : decode cX3_copy 18 = .ok (.iload_n 2, 1) := by decide +kernel
theorem dX3_copy_19 : decode cX3_copy 19 = .ok (.iaload, 1) := by decide +kernel
theorem dX3_copy_20 : decode cX3_copy 20 = .ok (.iastore, 1) := by decide +kernel
theorem dX3_copy_21 : decode cX3_copy 21 = .ok (.aload_n 0, 1) := by decide +kernel
theorem dX3_copy_22 : decode cX3_copy 22 = .ok (.getfield 15, 3) := by decide +kernel
theorem dX3_copy_25 : decode cX3_copy 25 = .ok (.iload_n 2, 1) := by decide +kernel
theorem dX3_copy_26 : decode cX3_copy 26 = .ok (.aload_n 1, 1) := by decide +kernel
theorem dX3_copy_27 : decode cX3_copy 27 = .ok (.getfield 15, 3) := by decide +kernel
theorem dX3_copy_30 : decode cX3_copy 30 = .ok (.iload_n 2, 1) := by decide +kernel
theorem dX3_copy_31 : decode cX3_copy 31 = .ok (.iaload, 1) := by decide +kernel
theorem dX3_copy_32 : decode cX3_copy 32 = .ok (.iastore, 1) := by decide +kernel
theorem dX3_copy_33 : decode cX3_copy 33 = .ok (.iinc 2 1, 3) := by decide +kernel
theorem dX3_copy_36 : decode cX3_copy 36 = .ok (.goto (-34), 3) := by decide +kernel
theorem dX3_copy_39 : decode cX3_copy 39 = .ok (.iconst 0, 1) := by decide +kernel
theorem dX3_copy_40 : decode cX3_copy 40 = .ok (.istore_n 2, 1) := by decide +kernel
theorem dX3_copy_41 : decode cX3_copy 41 = .ok (.iload_n 2, 1) := by decide +kernel
theorem dX3_copy_42 : decode cX3_copy 42 = .ok (.bipush 6, 2) := by decide +kernel
theorem dX3_copy_44 : decode cX3_copy 44 = .ok (.if_icmp .ge 33, 3) := by decide +kernel
theorem dX3_copy_47 : decode cX3_copy 47 = .ok (.aload_n 0, 1) := by decide +kernel
theorem dX3_copy_48 : decode cX3_copy 48 = .ok (.getfield 18, 3) := by decide +kernel
theorem dX3_copy_51 : decode cX3_copy 51 = .ok (.iload_n 2, 1) := by decide +kernel
theorem dX3_copy_52 : decode cX3_copy 52 = .ok (.aload_n 1, 1) := by decide +kernel
theorem dX3_copy_53 : decode cX3_copy 53 = .ok (.getfield 18, 3) := by decide +kernel
theorem dX3_copy_56 : decode cX3_copy 56 = .ok (.iload_n 2, 1) := by decide +kernel
theorem dX3_copy_57 : decode cX3_copy 57 = .ok (.iaload, 1) := by decide +kernel
theorem dX3_copy_58 : decode cX3_copy 58 = .ok (.iastore, 1) := by decide +kernel
theorem dX3_copy_59 : decode cX3_copy 59 = .ok (.aload_n 0, 1) := by decide +kernel
theorem dX3_copy_60 : decode cX3_copy 60 = .ok (.getfield 21, 3) := by decide +kernel
theorem dX3_copy_63 : decode cX3_copy 63 = .ok (.iload_n 2, 1) := by decide +kernel
theorem dX3_copy_64 : decode cX3_copy 64 = .ok (.aload_n 1, 1) := by decide +kernel
theorem dX3_copy_65 : decode cX3_copy 65 = .ok (.getfield 21, 3) := by decide +kernel
theorem dX3_copy_68 : decode cX3_copy 68 = .ok (.iload_n 2, 1) := by decide +kernel
theorem dX3_copy_69 : decode cX3_copy 69 = .ok (.iaload, 1) := by decide +kernel
theorem dX3_copy_70 : decode cX3_copy 70 = .ok (.iastore, 1) := by decide +kernel
theorem dX3_copy_71 : decode cX3_copy 71 = .ok (.iinc 2 1, 3) := by decide +kernel
theorem dX3_copy_74 : decode cX3_copy 74 = .ok (.goto (-33), 3) := by decide +kernel
theorem dX3_copy_77 : decode cX3_copy 77 = .ok (.aload_n 0, 1) := by decide +kernel
theorem dX3_copy_78 : decode cX3_copy 78 = .ok (.aload_n 1, 1) := by decide +kernel
theorem dX3_copy_79 : decode cX3_copy 79 = .ok (.getfield 24, 3) := by decide +kernel
theorem dX3_copy_82 : decode cX3_copy 82 = .ok (.putfield 24, 3) := by decide +kernel
theorem dX3_copy_85 : decode cX3_copy 85 = .ok (.aload_n 0, 1) := by decide +kernel
theorem dX3_copy_86 : decode cX3_copy 86 = .ok (.aload_n 1, 1) := by decide +kernel
theorem dX3_copy_87 : decode cX3_copy 87 = .ok (.getfield 28, 3) := by decide +kernel
theorem dX3_copy_90 : decode cX3_copy 90 = .ok (.putfield 28, 3) := by decide +kernel
theorem dX3_copy_93 : decode cX3_copy 93 = .ok (.return_, 1) := by decide +kernel
theorem dX4_init_0 : decode cX4_init 0 = .ok (.aload_n 0, 1) := by decide +kernel
theorem dX4_init_1 : decode cX4_init 1 = .ok (.invokespecial 3, 3) := by decide +kernel
theorem dX4_init_4 : decode cX4_init 4 = .ok (.aload_n 0, 1) := by decide +kernel
theorem dX4_init_5 : decode cX4_init 5 = .ok (.sipush 160, 3) := by decide +kernel
theorem dX4_init_8 : decode cX4_init 8 = .ok (.newarray .int, 2) := by decide +kernel
theorem dX4_init_10 : decode cX4_init 10 = .ok (.putfield 9, 3) := by decide +kernel
theorem dX4_init_13 : decode cX4_init 13 = .ok (.aload_n 0, 1) := by decide +kernel
theorem dX4_init_14 : decode cX4_init 14 = .ok (.iconst 0, 1) := by decide +kernel
theorem dX4_init_15 : decode cX4_init 15 = .ok (.putfield 15, 3) := by decide +kernel
theorem dX4_init_18 : decode cX4_init 18 = .ok (.return_, 1) := by decide +kernel
theorem dX4_length_0 : decode cX4_length 0 = .ok (.aload_n 0, 1) := by decide +kernel
theorem dX4_length_1 : decode cX4_length 1 = .ok (.getfield 15, 3) := by decide +kernel
theorem dX4_length_4 : decode cX4_length 4 = .ok (.ireturn, 1) := by decide +kernel
theorem dX4_at_0 : decode cX4_at 0 = .ok (.iload_n 1, 1) := by decide +kernel
theorem dX4_at_1 : decode cX4_at 1 = .ok (.ifCond .lt 29, 3) := by decide +kernel
theorem dX4_at_4 : decode cX4_at 4 = .ok (.iload_n 1, 1) := by decide +kernel
theorem dX4_at_5 : decode cX4_at 5 = .ok (.aload_n 0, 1) := by decide +kernel
theorem dX4_at_6 : decode cX4_at 6 = .ok (.getfield 15, 3) := by decide +kernel
theorem dX4_at_9 : decode cX4_at 9 = .ok (.if_icmp .ge 21, 3) := by decide +kernel
theorem dX4_at_12 : decode cX4_at 12 = .ok (.iload_n 1, 1) := by decide +kernel
theorem dX4_at_13 : decode cX4_at 13 = .ok (.aload_n 0, 1) := by decide +kernel
theorem dX4_at_14 : decode cX4_at 14 = .ok (.getfield 9, 3) := by decide +kernel
theorem dX4_at_17 : decode cX4_at 17 = .ok (.arraylength, 1) := by decide +kernel
theorem dX4_at_18 : decode cX4_at 18 = .ok (.if_icmp .ge 12, 3) := by decide +kernel
theorem dX4_at_21 : decode cX4_at 21 = .ok (.aload_n 0, 1) := by decide +kernel
theorem dX4_at_22 : decode cX4_at 22 = .ok (.getfield 9, 3) := by decide +kernel
theorem dX4_at_25 : decode cX4_at 25 = .ok (.iload_n 1, 1) := by decide +kernel
theorem dX4_at_26 : decode cX4_at 26 = .ok (.iaload, 1) := by decide +kernel
theorem dX4_at_27 : decode cX4_at 27 = .ok (.goto 4, 3) := by decide +kernel
theorem dX4_at_30 : decode cX4_at 30 = .ok (.iconst (-1), 1) := by decide +kernel
theorem dX4_at_31 : decode cX4_at 31 = .ok (.ireturn, 1) := by decide +kernel
theorem dX4_add_0 : decode cX4_add 0 = .ok (.aload_n 0, 1) := by decide +kernel
theorem dX4_add_1 : decode cX4_add 1 = .ok (.getfield 15, 3) := by decide +kernel
theorem dX4_add_4 : decode cX4_add 4 = .ok (.ifCond .lt 35, 3) := by decide +kernel
theorem dX4_add_7 : decode cX4_add 7 = .ok (.aload_n 0, 1) := by decide +kernel
theorem dX4_add_8 : decode cX4_add 8 = .ok (.getfield 15, 3) := by decide +kernel
theorem dX4_add_11 : decode cX4_add 11 = .ok (.aload_n 0, 1) := by decide +kernel
theorem dX4_add_12 : decode cX4_add 12 = .ok (.getfield 9, 3) := by decide +kernel
theorem dX4_add_15 : decode cX4_add 15 = .ok (.arraylength, 1) := by decide +kernel
theorem dX4_add_16 : decode cX4_add 16 = .ok (.if_icmp .ge 23, 3) := by decide +kernel
theorem dX4_add_19 : decode cX4_add 19 = .ok (.aload_n 0, 1) := by decide +kernel
theorem dX4_add_20 : decode cX4_add 20 = .ok (.getfield 9, 3) := by decide +kernel
theorem dX4_add_23 : decode cX4_add 23 = .ok (.aload_n 0, 1) := by decide +kernel
theorem dX4_add_24 : decode cX4_add 24 = .ok (.getfield 15, 3) := by decide +kernel
theorem dX4_add_27 : decode cX4_add 27 = .ok (.iload_n 1, 1) := by decide +kernel
theorem dX4_add_28 : decode cX4_add 28 = .ok (.iastore, 1) := by decide +kernel
theorem dX4_add_29 : decode cX4_add 29 = .ok (.aload_n 0, 1) := by decide +kernel
theorem dX4_add_30 : decode cX4_add 30 = .ok (.dup, 1) := by decide +kernel
theorem dX4_add_31 : decode cX4_add 31 = .ok (.getfield 15, 3) := by decide +kernel
theorem dX4_add_34 : decode cX4_add 34 = .ok (.iconst 1, 1) := by decide +kernel
theorem dX4_add_35 : decode cX4_add 35 = .ok (.iadd, 1) := by decide +kernel
theorem dX4_add_36 : decode cX4_add 36 = .ok (.putfield 15, 3) := by decide +kernel
theorem dX4_add_39 : decode cX4_add 39 = .ok (.return_, 1) := by decide +kernel
theorem dX4_clear_0 : decode cX4_clear 0 = .ok (.aload_n 0, 1) := by decide +kernel
theorem dX4_clear_1 : decode cX4_clear 1 = .ok (.iconst 0, 1) := by decide +kernel
theorem dX4_clear_2 : decode cX4_clear 2 = .ok (.putfield 15, 3) := by decide +kernel
theorem dX4_clear_5 : decode cX4_clear 5 = .ok (.return_, 1) := by decide +kernel
theorem dX5_init_0 : decode cX5_init 0 = .ok (.aload_n 0, 1) := by decide +kernel
theorem dX5_init_1 : decode cX5_init 1 = .ok (.invokespecial 1, 3) := by decide +kernel
theorem dX5_init_4 : decode cX5_init 4 = .ok (.aload_n 0, 1) := by decide +kernel
theorem dX5_init_5 : decode cX5_init 5 = .ok (.new 7, 3) := by decide +kernel
theorem dX5_init_8 : decode cX5_init 8 = .ok (.dup, 1) := by decide +kernel
theorem dX5_init_9 : decode cX5_init 9 = .ok (.invokespecial 9, 3) := by decide +kernel
theorem dX5_init_12 : decode cX5_init 12 = .ok (.putfield 10, 3) := by decide +kernel
theorem dX5_init_15 : decode cX5_init 15 = .ok (.aload_n 0, 1) := by decide +kernel
theorem dX5_init_16 : decode cX5_init 16 = .ok (.new 16, 3) := by decide +kernel
theorem dX5_init_19 : decode cX5_init 19 = .ok (.dup, 1) := by decide +kernel
theorem dX5_init_20 : decode cX5_init 20 = .ok (.invokespecial 18, 3) := by decide +kernel
theorem dX5_init_23 : decode cX5_init 23 = .ok (.putfield 19, 3) := by decide +kernel
theorem dX5_init_26 : decode cX5_init 26 = .ok (.aload_n 0, 1) := by decide +kernel
theorem dX5_init_27 : decode cX5_init 27 = .ok (.new 23, 3) := by decide +kernel
theorem dX5_init_30 : decode cX5_init 30 = .ok (.dup, 1) := by decide +kernel
theorem dX5_init_31 : decode cX5_init 31 = .ok (.invokespecial 25, 3) := by decide +kernel
theorem dX5_init_34 : decode cX5_init 34 = .ok (.putfield 26, 3) := by decide +kernel
theorem dX5_init_37 : decode cX5_init 37 = .ok (.aload_n 0, 1) := by decide +kernel
theorem dX5_init_38 : decode cX5_init 38 = .ok (.new 23, 3) := by decide +kernel
theorem dX5_init_41 : decode cX5_init 41 = .ok (.dup, 1) := by decide +kernel
theorem dX5_init_42 : decode cX5_init 42 = .ok (.invokespecial 25, 3) := by decide +kernel
theorem dX5_init_45 : decode cX5_init 45 = .ok (.putfield 30, 3) := by decide +kernel
theorem dX5_init_48 : decode cX5_init 48 = .ok (.aload_n 0, 1) := by decide +kernel
theorem dX5_init_49 : decode cX5_init 49 = .ok (.new 33, 3) := by decide +kernel
theorem dX5_init_52 : decode cX5_init 52 = .ok (.dup, 1) := by decide +kernel
theorem dX5_init_53 : decode cX5_init 53 = .ok (.aload_n 0, 1) := by decide +kernel
theorem dX5_init_54 : decode cX5_init 54 = .ok (.getfield 10, 3) := by decide +kernel
theorem dX5_init_57 : decode cX5_init 57 = .ok (.aload_n 0, 1) := by decide +kernel
theorem dX5_init_58 : decode cX5_init 58 = .ok (.getfield 30, 3) := by decide +kernel
theorem dX5_init_61 : decode cX5_init 61 = .ok (.invokespecial 35, 3) := by decide +kernel
theorem dX5_init_64 : decode cX5_init 64 = .ok (.putfield 38, 3) := by decide +kernel
theorem dX5_init_67 : decode cX5_init 67 = .ok (.aload_n 0, 1) := by decide +kernel
theorem dX5_init_68 : decode cX5_init 68 = .ok (.new 42, 3) := by decide +kernel
theorem dX5_init_71 : decode cX5_init 71 = .ok (.dup, 1) := by decide +kernel
theorem dX5_init_72 : decode cX5_init 72 = .ok (.aload_n 0, 1) := by decide +kernel
theorem dX5_init_73 : decode cX5_init 73 = .ok (.getfield 26, 3) := by decide +kernel
theorem dX5_init_76 : decode cX5_init 76 = .ok (.aload_n 0, 1) := by decide +kernel
theorem dX5_init_77 : decode cX5_init 77 = .ok (.getfield 19, 3) := by decide +kernel
theorem dX5_init_80 : decode cX5_init 80 = .ok (.invokespecial 44, 3) := by decide +kernel
theorem dX5_init_83 : decode cX5_init 83 = .ok (.putfield 47, 3) := by decide +kernel
theorem dX5_init_86 : decode cX5_init 86 = .ok (.return_, 1) := by decide +kernel
theorem dX5_words_0 : decode cX5_words 0 = .ok (.iload_n 2, 1) := by decide +kernel
theorem dX5_words_1 : decode cX5_words 1 = .ok (.iconst 1, 1) := by decide +kernel
theorem dX5_words_2 : decode cX5_words 2 = .ok (.if_icmp .lt 8, 3) := by decide +kernel
theorem dX5_words_5 : decode cX5_words 5 = .ok (.iload_n 2, 1) := by decide +kernel
theorem dX5_words_6 : decode cX5_words 6 = .ok (.iconst 4, 1) := by decide +kernel
theorem dX5_words_7 : decode cX5_words 7 = .ok (.if_icmp .le 13, 3) := by decide +kernel
theorem dX5_words_10 : decode cX5_words 10 = .ok (.new 51, 3) := by decide +kernel
theorem dX5_words_13 : decode cX5_words 13 = .ok (.dup, 1) := by decide +kernel
theorem dX5_words_14 : decode cX5_words 14 = .ok (.ldc 53, 2) := by decide +kernel
theorem dX5_words_16 : decode cX5_words 16 = .ok (.invokespecial 55, 3) := by decide +kernel
theorem dX5_words_19 : decode cX5_words 19 = .ok (.athrow, 1) := by decide +kernel
theorem dX5_words_20 : decode cX5_words 20 = .ok (.iconst 0, 1) := by decide +kernel
theorem dX5_words_21 : decode cX5_words 21 = .ok (.istore_n 3, 1) := by decide +kernel
theorem dX5_words_22 : decode cX5_words 22 = .ok (.iload_n 3, 1) := by decide +kernel
theorem dX5_words_23 : decode cX5_words 23 = .ok (.iload_n 2, 1) := by decide +kernel
theorem dX5_words_24 : decode cX5_words 24 = .ok (.if_icmp .ge 30, 3) := by decide +kernel
theorem dX5_words_27 : decode cX5_words 27 = .ok (.iload_n 1, 1) := by decide +kernel
theorem dX5_words_28 : decode cX5_words 28 = .ok (.iload_n 3, 1) := by decide +kernel
theorem dX5_words_29 : decode cX5_words 29 = .ok (.invokestatic 58, 3) := by decide +kernel
theorem dX5_words_32 : decode cX5_words 32 = .ok (.sipush 191, 3) := by decide +kernel
theorem dX5_words_35 : decode cX5_words 35 = .ok (.if_icmp .le 13, 3) := by decide +kernel
theorem dX5_words_38 : decode cX5_words 38 = .ok (.new 51, 3) := by decide +kernel
theorem dX5_words_41 : decode cX5_words 41 = .ok (.dup, 1) := by decide +kernel
theorem dX5_words_42 : decode cX5_words 42 = .ok (.ldc 62, 2) := by decide +kernel
theorem dX5_words_44 : decode cX5_words 44 = .ok (.invokespecial 55, 3) := by decide +kernel
theorem dX5_words_47 : decode cX5_words 47 = .ok (.athrow, 1) := by decide +kernel
theorem dX5_words_48 : decode cX5_words 48 = .ok (.iinc 3 1, 3) := by decide +kernel
theorem dX5_words_51 : decode cX5_words 51 = .ok (.goto (-29), 3) := by decide +kernel
theorem dX5_words_54 : decode cX5_words 54 = .ok (.aload_n 0, 1) := by decide +kernel
theorem dX5_words_55 : decode cX5_words 55 = .ok (.getfield 10, 3) := by decide +kernel
theorem dX5_words_58 : decode cX5_words 58 = .ok (.invokevirtual 64, 3) := by decide +kernel
theorem dX5_words_61 : decode cX5_words 61 = .ok (.iload_n 2, 1) := by decide +kernel
theorem dX5_words_62 : decode cX5_words 62 = .ok (.iadd, 1) := by decide +kernel
theorem dX5_words_63 : decode cX5_words 63 = .ok (.sipush 160, 3) := by decide +kernel
theorem dX5_words_66 : decode cX5_words 66 = .ok (.if_icmp .le 13, 3) := by decide +kernel
theorem dX5_words_69 : decode cX5_words 69 = .ok (.new 68, 3) := by decide +kernel
theorem dX5_words_72 : decode cX5_words 72 = .ok (.dup, 1) := by decide +kernel
theorem dX5_words_73 : decode cX5_words 73 = .ok (.ldc 70, 2) := by decide +kernel
theorem dX5_words_75 : decode cX5_words 75 = .ok (.invokespecial 72, 3) := by decide +kernel
theorem dX5_words_78 : decode cX5_words 78 = .ok (.athrow, 1) := by decide +kernel
theorem dX5_words_79 : decode cX5_words 79 = .ok (.iload_n 2, 1) := by decide +kernel
theorem dX5_words_80 : decode cX5_words 80 = .ok (.iconst 1, 1) := by decide +kernel
theorem dX5_words_81 : decode cX5_words 81 = .ok (.isub, 1) := by decide +kernel
theorem dX5_words_82 : decode cX5_words 82 = .ok (.istore_n 3, 1) := by decide +kernel
theorem dX5_words_83 : decode cX5_words 83 = .ok (.iload_n 3, 1) := by decide +kernel
theorem dX5_words_84 : decode cX5_words 84 = .ok (.ifCond .lt 21, 3) := by decide +kernel
theorem dX5_words_87 : decode cX5_words 87 = .ok (.aload_n 0, 1) := by decide +kernel
theorem dX5_words_88 : decode cX5_words 88 = .ok (.getfield 10, 3) := by decide +kernel
theorem dX5_words_91 : decode cX5_words 91 = .ok (.iload_n 1, 1) := by decide +kernel
theorem dX5_words_92 : decode cX5_words 92 = .ok (.iload_n 3, 1) := by decide +kernel
theorem dX5_words_93 : decode cX5_words 93 = .ok (.invokestatic 58, 3) := by decide +kernel
theorem dX5_words_96 : decode cX5_words 96 = .ok (.invokevirtual 73, 3) := by decide +kernel
theorem dX5_words_99 : decode cX5_words 99 = .ok (.iinc 3 (-1), 3) := by decide +kernel
theorem dX5_words_102 : decode cX5_words 102 = .ok (.goto (-19), 3) := by decide +kernel
theorem dX5_words_105 : decode cX5_words 105 = .ok (.aload_n 0, 1) := by decide +kernel
theorem dX5_words_106 : decode cX5_words 106 = .ok (.getfield 10, 3) := by decide +kernel
theorem dX5_words_109 : decode cX5_words 109 = .ok (.invokevirtual 64, 3) := by decide +kernel
theorem dX5_words_112 : decode cX5_words 112 = .ok (.ireturn, 1) := by decide +kernel
theorem dX5_compile_0 : decode cX5_compile 0 = .ok (.aload_n 0, 1) := by decide +kernel
theorem dX5_compile_1 : decode cX5_compile 1 = .ok (.getfield 38, 3) := by decide +kernel
theorem dX5_compile_4 : decode cX5_compile 4 = .ok (.invokevirtual 77, 3) := by decide +kernel
theorem dX5_compile_7 : decode cX5_compile 7 = .ok (.istore_n 1, 1) := by decide +kernel
theorem dX5_compile_8 : decode cX5_compile 8 = .ok (.aload_n 0, 1) := by decide +kernel
theorem dX5_compile_9 : decode cX5_compile 9 = .ok (.getfield 10, 3) := by decide +kernel
theorem dX5_compile_12 : decode cX5_compile 12 = .ok (.invokevirtual 80, 3) := by decide +kernel
theorem dX5_compile_15 : decode cX5_compile 15 = .ok (.iload_n 1, 1) := by decide +kernel
theorem dX5_compile_16 : decode cX5_compile 16 = .ok (.ifCond .eq 5, 3) := by decide +kernel
theorem dX5_compile_19 : decode cX5_compile 19 = .ok (.iload_n 1, 1) := by decide +kernel
theorem dX5_compile_20 : decode cX5_compile 20 = .ok (.ireturn, 1) := by decide +kernel
theorem dX5_compile_21 : decode cX5_compile 21 = .ok (.aload_n 0, 1) := by decide +kernel
theorem dX5_compile_22 : decode cX5_compile 22 = .ok (.getfield 26, 3) := by decide +kernel
theorem dX5_compile_25 : decode cX5_compile 25 = .ok (.aload_n 0, 1) := by decide +kernel
theorem dX5_compile_26 : decode cX5_compile 26 = .ok (.getfield 30, 3) := by decide +kernel
theorem dX5_compile_29 : decode cX5_compile 29 = .ok (.invokevirtual 83, 3) := by decide +kernel
theorem dX5_compile_32 : decode cX5_compile 32 = .ok (.aload_n 0, 1) := by decide +kernel
theorem dX5_compile_33 : decode cX5_compile 33 = .ok (.getfield 47, 3) := by decide +kernel
theorem dX5_compile_36 : decode cX5_compile 36 = .ok (.invokevirtual 87, 3) := by decide +kernel
theorem dX5_compile_39 : decode cX5_compile 39 = .ok (.aload_n 0, 1) := by decide +kernel
theorem dX5_compile_40 : decode cX5_compile 40 = .ok (.getfield 26, 3) := by decide +kernel
theorem dX5_compile_43 : decode cX5_compile 43 = .ok (.invokevirtual 88, 3) := by decide +kernel
theorem dX5_compile_46 : decode cX5_compile 46 = .ok (.ireturn, 1) := by decide +kernel
theorem dX5_start_0 : decode cX5_start 0 = .ok (.aload_n 0, 1) := by decide +kernel
theorem dX5_start_1 : decode cX5_start 1 = .ok (.getfield 26, 3) := by decide +kernel
theorem dX5_start_4 : decode cX5_start 4 = .ok (.invokevirtual 88, 3) := by decide +kernel
theorem dX5_start_7 : decode cX5_start 7 = .ok (.ifCond .ne 13, 3) := by decide +kernel
theorem dX5_start_10 : decode cX5_start 10 = .ok (.new 68, 3) := by decide +kernel
theorem dX5_start_13 : decode cX5_start 13 = .ok (.dup, 1) := by decide +kernel
theorem dX5_start_14 : decode cX5_start 14 = .ok (.ldc 91, 2) := by decide +kernel
theorem dX5_start_16 : decode cX5_start 16 = .ok (.invokespecial 72, 3) := by decide +kernel
theorem dX5_start_19 : decode cX5_start 19 = .ok (.athrow, 1) := by decide +kernel
theorem dX5_start_20 : decode cX5_start 20 = .ok (.aload_n 0, 1) := by decide +kernel
theorem dX5_start_21 : decode cX5_start 21 = .ok (.getfield 47, 3) := by decide +kernel
theorem dX5_start_24 : decode cX5_start 24 = .ok (.invokevirtual 93, 3) := by decide +kernel
theorem dX5_start_27 : decode cX5_start 27 = .ok (.iconst 1, 1) := by decide +kernel
theorem dX5_start_28 : decode cX5_start 28 = .ok (.ireturn, 1) := by decide +kernel
theorem dX5_key_0 : decode cX5_key 0 = .ok (.iload_n 1, 1) := by decide +kernel
theorem dX5_key_1 : decode cX5_key 1 = .ok (.sipush (-32768), 3) := by decide +kernel
theorem dX5_key_4 : decode cX5_key 4 = .ok (.if_icmp .lt 10, 3) := by decide +kernel
theorem dX5_key_7 : decode cX5_key 7 = .ok (.iload_n 1, 1) := by decide +kernel
theorem dX5_key_8 : decode cX5_key 8 = .ok (.sipush 32767, 3) := by decide +kernel
theorem dX5_key_11 : decode cX5_key 11 = .ok (.if_icmp .le 13, 3) := by decide +kernel
theorem dX5_key_14 : decode cX5_key 14 = .ok (.new 51, 3) := by decide +kernel
theorem dX5_key_17 : decode cX5_key 17 = .ok (.dup, 1) := by decide +kernel
theorem dX5_key_18 : decode cX5_key 18 = .ok (.ldc 96, 2) := by decide +kernel
theorem dX5_key_20 : decode cX5_key 20 = .ok (.invokespecial 55, 3) := by decide +kernel
theorem dX5_key_23 : decode cX5_key 23 = .ok (.athrow, 1) := by decide +kernel
theorem dX5_key_24 : decode cX5_key 24 = .ok (.aload_n 0, 1) := by decide +kernel
theorem dX5_key_25 : decode cX5_key 25 = .ok (.getfield 19, 3) := by decide +kernel
theorem dX5_key_28 : decode cX5_key 28 = .ok (.invokevirtual 98, 3) := by decide +kernel
theorem dX5_key_31 : decode cX5_key 31 = .ok (.ifCond .eq 13, 3) := by decide +kernel
theorem dX5_key_34 : decode cX5_key 34 = .ok (.new 68, 3) := by decide +kernel
theorem dX5_key_37 : decode cX5_key 37 = .ok (.dup, 1) := by decide +kernel
theorem dX5_key_38 : decode cX5_key 38 = .ok (.ldc 102, 2) := by decide +kernel
theorem dX5_key_40 : decode cX5_key 40 = .ok (.invokespecial 72, 3) := by decide +kernel
theorem dX5_key_43 : decode cX5_key 43 = .ok (.athrow, 1) := by decide +kernel
theorem dX5_key_44 : decode cX5_key 44 = .ok (.aload_n 0, 1) := by decide +kernel
theorem dX5_key_45 : decode cX5_key 45 = .ok (.getfield 19, 3) := by decide +kernel
theorem dX5_key_48 : decode cX5_key 48 = .ok (.iload_n 1, 1) := by decide +kernel
theorem dX5_key_49 : decode cX5_key 49 = .ok (.invokevirtual 104, 3) := by decide +kernel
theorem dX5_key_52 : decode cX5_key 52 = .ok (.aload_n 0, 1) := by decide +kernel
theorem dX5_key_53 : decode cX5_key 53 = .ok (.getfield 19, 3) := by decide +kernel
theorem dX5_key_56 : decode cX5_key 56 = .ok (.invokevirtual 105, 3) := by decide +kernel
theorem dX5_key_59 : decode cX5_key 59 = .ok (.ireturn, 1) := by decide +kernel
theorem dX5_run_0 : decode cX5_run 0 = .ok (.iload_n 1, 1) := by decide +kernel
theorem dX5_run_1 : decode cX5_run 1 = .ok (.iconst 1, 1) := by decide +kernel
theorem dX5_run_2 : decode cX5_run 2 = .ok (.if_icmp .lt 10, 3) := by decide +kernel
theorem dX5_run_5 : decode cX5_run 5 = .ok (.iload_n 1, 1) := by decide +kernel
theorem dX5_run_6 : decode cX5_run 6 = .ok (.sipush 200, 3) := by decide +kernel
theorem dX5_run_9 : decode cX5_run 9 = .ok (.if_icmp .le 13, 3) := by decide +kernel
theorem dX5_run_12 : decode cX5_run 12 = .ok (.new 51, 3) := by decide +kernel
theorem dX5_run_15 : decode cX5_run 15 = .ok (.dup, 1) := by decide +kernel
theorem dX5_run_16 : decode cX5_run 16 = .ok (.ldc 108, 2) := by decide +kernel
theorem dX5_run_18 : decode cX5_run 18 = .ok (.invokespecial 55, 3) := by decide +kernel
theorem dX5_run_21 : decode cX5_run 21 = .ok (.athrow, 1) := by decide +kernel
theorem dX5_run_22 : decode cX5_run 22 = .ok (.aload_n 0, 1) := by decide +kernel
theorem dX5_run_23 : decode cX5_run 23 = .ok (.getfield 47, 3) := by decide +kernel
theorem dX5_run_26 : decode cX5_run 26 = .ok (.invokevirtual 110, 3) := by decide +kernel
theorem dX5_run_29 : decode cX5_run 29 = .ok (.ifCond .ne 13, 3) := by decide +kernel
theorem dX5_run_32 : decode cX5_run 32 = .ok (.new 68, 3) := by decide +kernel
theorem dX5_run_35 : decode cX5_run 35 = .ok (.dup, 1) := by decide +kernel
theorem dX5_run_36 : decode cX5_run 36 = .ok (.ldc 113, 2) := by decide +kernel
theorem dX5_run_38 : decode cX5_run 38 = .ok (.invokespecial 72, 3) := by decide +kernel
theorem dX5_run_41 : decode cX5_run 41 = .ok (.athrow, 1) := by decide +kernel
theorem dX5_run_42 : decode cX5_run 42 = .ok (.aload_n 0, 1) := by decide +kernel
theorem dX5_run_43 : decode cX5_run 43 = .ok (.getfield 47, 3) := by decide +kernel
theorem dX5_run_46 : decode cX5_run 46 = .ok (.iload_n 1, 1) := by decide +kernel
theorem dX5_run_47 : decode cX5_run 47 = .ok (.invokevirtual 115, 3) := by decide +kernel
theorem dX5_run_50 : decode cX5_run 50 = .ok (.ireturn, 1) := by decide +kernel
theorem dX5_shown_0 : decode cX5_shown 0 = .ok (.aload_n 0, 1) := by decide +kernel
theorem dX5_shown_1 : decode cX5_shown 1 = .ok (.getfield 47, 3) := by decide +kernel
theorem dX5_shown_4 : decode cX5_shown 4 = .ok (.iload_n 1, 1) := by decide +kernel
theorem dX5_shown_5 : decode cX5_shown 5 = .ok (.invokevirtual 119, 3) := by decide +kernel
theorem dX5_shown_8 : decode cX5_shown 8 = .ok (.ifCond .ne 13, 3) := by decide +kernel
theorem dX5_shown_11 : decode cX5_shown 11 = .ok (.new 123, 3) := by decide +kernel
theorem dX5_shown_14 : decode cX5_shown 14 = .ok (.dup, 1) := by decide +kernel
theorem dX5_shown_15 : decode cX5_shown 15 = .ok (.ldc 125, 2) := by decide +kernel
theorem dX5_shown_17 : decode cX5_shown 17 = .ok (.invokespecial 127, 3) := by decide +kernel
theorem dX5_shown_20 : decode cX5_shown 20 = .ok (.athrow, 1) := by decide +kernel
theorem dX5_shown_21 : decode cX5_shown 21 = .ok (.aload_n 0, 1) := by decide +kernel
theorem dX5_shown_22 : decode cX5_shown 22 = .ok (.getfield 47, 3) := by decide +kernel
theorem dX5_shown_25 : decode cX5_shown 25 = .ok (.iload_n 1, 1) := by decide +kernel
theorem dX5_shown_26 : decode cX5_shown 26 = .ok (.invokevirtual 128, 3) := by decide +kernel
theorem dX5_shown_29 : decode cX5_shown 29 = .ok (.ireturn, 1) := by decide +kernel
theorem dX5_global_0 : decode cX5_global 0 = .ok (.iload_n 1, 1) := by decide +kernel
theorem dX5_global_1 : decode cX5_global 1 = .ok (.ifCond .lt 9, 3) := by decide +kernel
theorem dX5_global_4 : decode cX5_global 4 = .ok (.iload_n 1, 1) := by decide +kernel
theorem dX5_global_5 : decode cX5_global 5 = .ok (.bipush 8, 2) := by decide +kernel
theorem dX5_global_7 : decode cX5_global 7 = .ok (.if_icmp .lt 13, 3) := by decide +kernel
theorem dX5_global_10 : decode cX5_global 10 = .ok (.new 123, 3) := by decide +kernel
theorem dX5_global_13 : decode cX5_global 13 = .ok (.dup, 1) := by decide +kernel
theorem dX5_global_14 : decode cX5_global 14 = .ok (.ldc 131, 2) := by decide +kernel
theorem dX5_global_16 : decode cX5_global 16 = .ok (.invokespecial 127, 3) := by decide +kernel
theorem dX5_global_19 : decode cX5_global 19 = .ok (.athrow, 1) := by decide +kernel
theorem dX5_global_20 : decode cX5_global 20 = .ok (.aload_n 0, 1) := by decide +kernel
theorem dX5_global_21 : decode cX5_global 21 = .ok (.getfield 47, 3) := by decide +kernel
theorem dX5_global_24 : decode cX5_global 24 = .ok (.iload_n 1, 1) := by decide +kernel
theorem dX5_global_25 : decode cX5_global 25 = .ok (.invokevirtual 133, 3) := by decide +kernel
theorem dX5_global_28 : decode cX5_global 28 = .ok (.ireturn, 1) := by decide +kernel
theorem dX5_array_0 : decode cX5_array 0 = .ok (.iload_n 1, 1) := by decide +kernel
theorem dX5_array_1 : decode cX5_array 1 = .ok (.ifCond .lt 18, 3) := by decide +kernel
theorem dX5_array_4 : decode cX5_array 4 = .ok (.iload_n 1, 1) := by decide +kernel
theorem dX5_array_5 : decode cX5_array 5 = .ok (.iconst 4, 1) := by decide +kernel
theorem dX5_array_6 : decode cX5_array 6 = .ok (.if_icmp .ge 13, 3) := by decide +kernel
theorem dX5_array_9 : decode cX5_array 9 = .ok (.iload_n 2, 1) := by decide +kernel
theorem dX5_array_10 : decode cX5_array 10 = .ok (.ifCond .lt 9, 3) := by decide +kernel
theorem dX5_array_13 : decode cX5_array 13 = .ok (.iload_n 2, 1) := by decide +kernel
theorem dX5_array_14 : decode cX5_array 14 = .ok (.bipush 8, 2) := by decide +kernel
theorem dX5_array_16 : decode cX5_array 16 = .ok (.if_icmp .lt 13, 3) := by decide +kernel
theorem dX5_array_19 : decode cX5_array 19 = .ok (.new 123, 3) := by decide +kernel
theorem dX5_array_22 : decode cX5_array 22 = .ok (.dup, 1) := by decide +kernel
theorem dX5_array_23 : decode cX5_array 23 = .ok (.ldc 136, 2) := by decide +kernel
theorem dX5_array_25 : decode cX5_array 25 = .ok (.invokespecial 127, 3) := by decide +kernel
theorem dX5_array_28 : decode cX5_array 28 = .ok (.athrow, 1) := by decide +kernel
theorem dX5_array_29 : decode cX5_array 29 = .ok (.aload_n 0, 1) := by decide +kernel
theorem dX5_array_30 : decode cX5_array 30 = .ok (.getfield 47, 3) := by decide +kernel
theorem dX5_array_33 : decode cX5_array 33 = .ok (.iload_n 1, 1) := by decide +kernel
theorem dX5_array_34 : decode cX5_array 34 = .ok (.iload_n 2, 1) := by decide +kernel
theorem dX5_array_35 : decode cX5_array 35 = .ok (.invokevirtual 138, 3) := by decide +kernel
theorem dX5_array_38 : decode cX5_array 38 = .ok (.ireturn, 1) := by decide +kernel
theorem dX5_about_0 : decode cX5_about 0 = .ok (.iload_n 1, 1) := by decide +kernel
theorem dX5_about_1 : decode cX5_about 1 = .ok (.tableswitch 99 0 6 #[43, 51, 59, 67, 75, 83, 91], 43) := by decide +kernel
theorem dX5_about_44 : decode cX5_about 44 = .ok (.aload_n 0, 1) := by decide +kernel
theorem dX5_about_45 : decode cX5_about 45 = .ok (.getfield 47, 3) := by decide +kernel
theorem dX5_about_48 : decode cX5_about 48 = .ok (.invokevirtual 110, 3) := by decide +kernel
theorem dX5_about_51 : decode cX5_about 51 = .ok (.ireturn, 1) := by decide +kernel
theorem dX5_about_52 : decode cX5_about 52 = .ok (.aload_n 0, 1) := by decide +kernel
theorem dX5_about_53 : decode cX5_about 53 = .ok (.getfield 10, 3) := by decide +kernel
theorem dX5_about_56 : decode cX5_about 56 = .ok (.invokevirtual 64, 3) := by decide +kernel
theorem dX5_about_59 : decode cX5_about 59 = .ok (.ireturn, 1) := by decide +kernel
theorem dX5_about_60 : decode cX5_about 60 = .ok (.aload_n 0, 1) := by decide +kernel
theorem dX5_about_61 : decode cX5_about 61 = .ok (.getfield 26, 3) := by decide +kernel
theorem dX5_about_64 : decode cX5_about 64 = .ok (.invokevirtual 88, 3) := by decide +kernel
theorem dX5_about_67 : decode cX5_about 67 = .ok (.ireturn, 1) := by decide +kernel
theorem dX5_about_68 : decode cX5_about 68 = .ok (.aload_n 0, 1) := by decide +kernel
theorem dX5_about_69 : decode cX5_about 69 = .ok (.getfield 47, 3) := by decide +kernel
theorem dX5_about_72 : decode cX5_about 72 = .ok (.invokevirtual 141, 3) := by decide +kernel
theorem dX5_about_75 : decode cX5_about 75 = .ok (.ireturn, 1) := by decide +kernel
theorem dX5_about_76 : decode cX5_about 76 = .ok (.aload_n 0, 1) := by decide +kernel
theorem dX5_about_77 : decode cX5_about 77 = .ok (.getfield 47, 3) := by decide +kernel
theorem dX5_about_80 : decode cX5_about 80 = .ok (.invokevirtual 144, 3) := by decide +kernel
theorem dX5_about_83 : decode cX5_about 83 = .ok (.ireturn, 1) := by decide +kernel
theorem dX5_about_84 : decode cX5_about 84 = .ok (.aload_n 0, 1) := by decide +kernel
theorem dX5_about_85 : decode cX5_about 85 = .ok (.getfield 19, 3) := by decide +kernel
theorem dX5_about_88 : decode cX5_about 88 = .ok (.invokevirtual 105, 3) := by decide +kernel
theorem dX5_about_91 : decode cX5_about 91 = .ok (.ireturn, 1) := by decide +kernel
theorem dX5_about_92 : decode cX5_about 92 = .ok (.aload_n 0, 1) := by decide +kernel
theorem dX5_about_93 : decode cX5_about 93 = .ok (.getfield 47, 3) := by decide +kernel
theorem dX5_about_96 : decode cX5_about 96 = .ok (.invokevirtual 147, 3) := by decide +kernel
theorem dX5_about_99 : decode cX5_about 99 = .ok (.ireturn, 1) := by decide +kernel
theorem dX5_about_100 : decode cX5_about 100 = .ok (.iconst (-1), 1) := by decide +kernel
theorem dX5_about_101 : decode cX5_about 101 = .ok (.ireturn, 1) := by decide +kernel
theorem dX5_byteOf_0 : decode cX5_byteOf 0 = .ok (.iload_n 0, 1) := by decide +kernel
theorem dX5_byteOf_1 : decode cX5_byteOf 1 = .ok (.bipush 8, 2) := by decide +kernel
theorem dX5_byteOf_3 : decode cX5_byteOf 3 = .ok (.iload_n 1, 1) := by decide +kernel
theorem dX5_byteOf_4 : decode cX5_byteOf 4 = .ok (.imul, 1) := by decide +kernel
theorem dX5_byteOf_5 : decode cX5_byteOf 5 = .ok (.iushr, 1) := by decide +kernel
theorem dX5_byteOf_6 : decode cX5_byteOf 6 = .ok (.sipush 255, 3) := by decide +kernel
theorem dX5_byteOf_9 : decode cX5_byteOf 9 = .ok (.iand, 1) := by decide +kernel
theorem dX5_byteOf_10 : decode cX5_byteOf 10 = .ok (.ireturn, 1) := by decide +kernel
theorem dL_words_0 : decode cL_words 0 = .ok (.aload_n 3, 1) := by decide +kernel
theorem dL_words_1 : decode cL_words 1 = .ok (.iconst 0, 1) := by decide +kernel
theorem dL_words_2 : decode cL_words 2 = .ok (.aload_n 0, 1) := by decide +kernel
theorem dL_words_3 : decode cL_words 3 = .ok (.iload_n 1, 1) := by decide +kernel
theorem dL_words_4 : decode cL_words 4 = .ok (.iload_n 2, 1) := by decide +kernel
theorem dL_words_5 : decode cL_words 5 = .ok (.invokevirtual 7, 3) := by decide +kernel
theorem dL_words_8 : decode cL_words 8 = .ok (.i2l, 1) := by decide +kernel
theorem dL_words_9 : decode cL_words 9 = .ok (.lastore, 1) := by decide +kernel
theorem dL_words_10 : decode cL_words 10 = .ok (.goto 11, 3) := by decide +kernel
theorem dL_words_13 : decode cL_words 13 = .ok (.astore 4, 2) := by decide +kernel
theorem dL_words_15 : decode cL_words 15 = .ok (.iconst 1, 1) := by decide +kernel
theorem dL_words_16 : decode cL_words 16 = .ok (.ireturn, 1) := by decide +kernel
theorem dL_words_17 : decode cL_words 17 = .ok (.astore 4, 2) := by decide +kernel
theorem dL_words_19 : decode cL_words 19 = .ok (.iconst 2, 1) := by decide +kernel
theorem dL_words_20 : decode cL_words 20 = .ok (.ireturn, 1) := by decide +kernel
theorem dL_words_21 : decode cL_words 21 = .ok (.iconst 0, 1) := by decide +kernel
theorem dL_words_22 : decode cL_words 22 = .ok (.ireturn, 1) := by decide +kernel
theorem dL_start_0 : decode cL_start 0 = .ok (.aload_n 1, 1) := by decide +kernel
theorem dL_start_1 : decode cL_start 1 = .ok (.iconst 0, 1) := by decide +kernel
theorem dL_start_2 : decode cL_start 2 = .ok (.aload_n 0, 1) := by decide +kernel
theorem dL_start_3 : decode cL_start 3 = .ok (.invokevirtual 17, 3) := by decide +kernel
theorem dL_start_6 : decode cL_start 6 = .ok (.ifCond .eq 7, 3) := by decide +kernel
theorem dL_start_9 : decode cL_start 9 = .ok (.lconst 1, 1) := by decide +kernel
theorem dL_start_10 : decode cL_start 10 = .ok (.goto 4, 3) := by decide +kernel
theorem dL_start_13 : decode cL_start 13 = .ok (.lconst 0, 1) := by decide +kernel
theorem dL_start_14 : decode cL_start 14 = .ok (.lastore, 1) := by decide +kernel
theorem dL_start_15 : decode cL_start 15 = .ok (.goto 6, 3) := by decide +kernel
theorem dL_start_18 : decode cL_start 18 = .ok (.astore_n 2, 1) := by decide +kernel
theorem dL_start_19 : decode cL_start 19 = .ok (.iconst 1, 1) := by decide +kernel
theorem dL_start_20 : decode cL_start 20 = .ok (.ireturn, 1) := by decide +kernel
theorem dL_start_21 : decode cL_start 21 = .ok (.iconst 0, 1) := by decide +kernel
theorem dL_start_22 : decode cL_start 22 = .ok (.ireturn, 1) := by decide +kernel
theorem dL_key_0 : decode cL_key 0 = .ok (.aload_n 2, 1) := by decide +kernel
theorem dL_key_1 : decode cL_key 1 = .ok (.iconst 0, 1) := by decide +kernel
theorem dL_key_2 : decode cL_key 2 = .ok (.aload_n 0, 1) := by decide +kernel
theorem dL_key_3 : decode cL_key 3 = .ok (.iload_n 1, 1) := by decide +kernel
theorem dL_key_4 : decode cL_key 4 = .ok (.invokevirtual 21, 3) := by decide +kernel
theorem dL_key_7 : decode cL_key 7 = .ok (.i2l, 1) := by decide +kernel
theorem dL_key_8 : decode cL_key 8 = .ok (.lastore, 1) := by decide +kernel
theorem dL_key_9 : decode cL_key 9 = .ok (.goto 9, 3) := by decide +kernel
theorem dL_key_12 : decode cL_key 12 = .ok (.astore_n 3, 1) := by decide +kernel
theorem dL_key_13 : decode cL_key 13 = .ok (.iconst 1, 1) := by decide +kernel
theorem dL_key_14 : decode cL_key 14 = .ok (.ireturn, 1) := by decide +kernel
theorem dL_key_15 : decode cL_key 15 = .ok (.astore_n 3, 1) := by decide +kernel
theorem dL_key_16 : decode cL_key 16 = .ok (.iconst 2, 1) := by decide +kernel
theorem dL_key_17 : decode cL_key 17 = .ok (.ireturn, 1) := by decide +kernel
theorem dL_key_18 : decode cL_key 18 = .ok (.iconst 0, 1) := by decide +kernel
theorem dL_key_19 : decode cL_key 19 = .ok (.ireturn, 1) := by decide +kernel
theorem dL_run_0 : decode cL_run 0 = .ok (.aload_n 2, 1) := by decide +kernel
theorem dL_run_1 : decode cL_run 1 = .ok (.iconst 0, 1) := by decide +kernel
theorem dL_run_2 : decode cL_run 2 = .ok (.aload_n 0, 1) := by decide +kernel
theorem dL_run_3 : decode cL_run 3 = .ok (.iload_n 1, 1) := by decide +kernel
theorem dL_run_4 : decode cL_run 4 = .ok (.invokevirtual 25, 3) := by decide +kernel
theorem dL_run_7 : decode cL_run 7 = .ok (.i2l, 1) := by decide +kernel
theorem dL_run_8 : decode cL_run 8 = .ok (.lastore, 1) := by decide +kernel
theorem dL_run_9 : decode cL_run 9 = .ok (.goto 9, 3) := by decide +kernel
theorem dL_run_12 : decode cL_run 12 = .ok (.astore_n 3, 1) := by decide +kernel
theorem dL_run_13 : decode cL_run 13 = .ok (.iconst 1, 1) := by decide +kernel
theorem dL_run_14 : decode cL_run 14 = .ok (.ireturn, 1) := by decide +kernel
theorem dL_run_15 : decode cL_run 15 = .ok (.astore_n 3, 1) := by decide +kernel
theorem dL_run_16 : decode cL_run 16 = .ok (.iconst 2, 1) := by decide +kernel
theorem dL_run_17 : decode cL_run 17 = .ok (.ireturn, 1) := by decide +kernel
theorem dL_run_18 : decode cL_run 18 = .ok (.iconst 0, 1) := by decide +kernel
theorem dL_run_19 : decode cL_run 19 = .ok (.ireturn, 1) := by decide +kernel
theorem dL_shown_0 : decode cL_shown 0 = .ok (.aload_n 2, 1) := by decide +kernel
theorem dL_shown_1 : decode cL_shown 1 = .ok (.iconst 0, 1) := by decide +kernel
theorem dL_shown_2 : decode cL_shown 2 = .ok (.aload_n 0, 1) := by decide +kernel
theorem dL_shown_3 : decode cL_shown 3 = .ok (.iload_n 1, 1) := by decide +kernel
theorem dL_shown_4 : decode cL_shown 4 = .ok (.invokevirtual 28, 3) := by decide +kernel
theorem dL_shown_7 : decode cL_shown 7 = .ok (.i2l, 1) := by decide +kernel
theorem dL_shown_8 : decode cL_shown 8 = .ok (.lastore, 1) := by decide +kernel
theorem dL_shown_9 : decode cL_shown 9 = .ok (.goto 6, 3) := by decide +kernel
theorem dL_shown_12 : decode cL_shown 12 = .ok (.astore_n 3, 1) := by decide +kernel
theorem dL_shown_13 : decode cL_shown 13 = .ok (.iconst 1, 1) := by decide +kernel
theorem dL_shown_14 : decode cL_shown 14 = .ok (.ireturn, 1) := by decide +kernel
theorem dL_shown_15 : decode cL_shown 15 = .ok (.iconst 0, 1) := by decide +kernel
theorem dL_shown_16 : decode cL_shown 16 = .ok (.ireturn, 1) := by decide +kernel
theorem dL_global_0 : decode cL_global 0 = .ok (.aload_n 2, 1) := by decide +kernel
theorem dL_global_1 : decode cL_global 1 = .ok (.iconst 0, 1) := by decide +kernel
theorem dL_global_2 : decode cL_global 2 = .ok (.aload_n 0, 1) := by decide +kernel
theorem dL_global_3 : decode cL_global 3 = .ok (.iload_n 1, 1) := by decide +kernel
theorem dL_global_4 : decode cL_global 4 = .ok (.invokevirtual 33, 3) := by decide +kernel
theorem dL_global_7 : decode cL_global 7 = .ok (.i2l, 1) := by decide +kernel
theorem dL_global_8 : decode cL_global 8 = .ok (.lastore, 1) := by decide +kernel
theorem dL_global_9 : decode cL_global 9 = .ok (.goto 6, 3) := by decide +kernel
theorem dL_global_12 : decode cL_global 12 = .ok (.astore_n 3, 1) := by decide +kernel
theorem dL_global_13 : decode cL_global 13 = .ok (.iconst 1, 1) := by decide +kernel
theorem dL_global_14 : decode cL_global 14 = .ok (.ireturn, 1) := by decide +kernel
theorem dL_global_15 : decode cL_global 15 = .ok (.iconst 0, 1) := by decide +kernel
theorem dL_global_16 : decode cL_global 16 = .ok (.ireturn, 1) := by decide +kernel
theorem dL_array_0 : decode cL_array 0 = .ok (.aload_n 3, 1) := by decide +kernel
theorem dL_array_1 : decode cL_array 1 = .ok (.iconst 0, 1) := by decide +kernel
theorem dL_array_2 : decode cL_array 2 = .ok (.aload_n 0, 1) := by decide +kernel
theorem dL_array_3 : decode cL_array 3 = .ok (.iload_n 1, 1) := by decide +kernel
theorem dL_array_4 : decode cL_array 4 = .ok (.iload_n 2, 1) := by decide +kernel
theorem dL_array_5 : decode cL_array 5 = .ok (.invokevirtual 36, 3) := by decide +kernel
theorem dL_array_8 : decode cL_array 8 = .ok (.i2l, 1) := by decide +kernel
theorem dL_array_9 : decode cL_array 9 = .ok (.lastore, 1) := by decide +kernel
theorem dL_array_10 : decode cL_array 10 = .ok (.goto 7, 3) := by decide +kernel
theorem dL_array_13 : decode cL_array 13 = .ok (.astore 4, 2) := by decide +kernel
theorem dL_array_15 : decode cL_array 15 = .ok (.iconst 1, 1) := by decide +kernel
theorem dL_array_16 : decode cL_array 16 = .ok (.ireturn, 1) := by decide +kernel
theorem dL_array_17 : decode cL_array 17 = .ok (.iconst 0, 1) := by decide +kernel
theorem dL_array_18 : decode cL_array 18 = .ok (.ireturn, 1) := by decide +kernel
theorem dL_law_0 : decode cL_law 0 = .ok (.new 8, 3) := by decide +kernel
theorem dL_law_3 : decode cL_law 3 = .ok (.dup, 1) := by decide +kernel
theorem dL_law_4 : decode cL_law 4 = .ok (.invokespecial 39, 3) := by decide +kernel
theorem dL_law_7 : decode cL_law 7 = .ok (.astore_n 1, 1) := by decide +kernel
theorem dL_law_8 : decode cL_law 8 = .ok (.new 40, 3) := by decide +kernel
theorem dL_law_11 : decode cL_law 11 = .ok (.dup, 1) := by decide +kernel
theorem dL_law_12 : decode cL_law 12 = .ok (.invokespecial 42, 3) := by decide +kernel
theorem dL_law_15 : decode cL_law 15 = .ok (.astore_n 2, 1) := by decide +kernel
theorem dL_law_16 : decode cL_law 16 = .ok (.iconst 1, 1) := by decide +kernel
theorem dL_law_17 : decode cL_law 17 = .ok (.newarray .long, 2) := by decide +kernel
theorem dL_law_19 : decode cL_law 19 = .ok (.astore_n 3, 1) := by decide +kernel
theorem dL_law_20 : decode cL_law 20 = .ok (.iconst 0, 1) := by decide +kernel
theorem dL_law_21 : decode cL_law 21 = .ok (.istore 4, 2) := by decide +kernel
theorem dL_law_23 : decode cL_law 23 = .ok (.iload 4, 2) := by decide +kernel
theorem dL_law_25 : decode cL_law 25 = .ok (.aload_n 0, 1) := by decide +kernel
theorem dL_law_26 : decode cL_law 26 = .ok (.arraylength, 1) := by decide +kernel
theorem dL_law_27 : decode cL_law 27 = .ok (.iconst 3, 1) := by decide +kernel
theorem dL_law_28 : decode cL_law 28 = .ok (.isub, 1) := by decide +kernel
theorem dL_law_29 : decode cL_law 29 = .ok (.if_icmp .gt 514, 3) := by decide +kernel
theorem dL_law_32 : decode cL_law 32 = .ok (.aload_n 0, 1) := by decide +kernel
theorem dL_law_33 : decode cL_law 33 = .ok (.iload 4, 2) := by decide +kernel
theorem dL_law_35 : decode cL_law 35 = .ok (.iaload, 1) := by decide +kernel
theorem dL_law_36 : decode cL_law 36 = .ok (.bipush 15, 2) := by decide +kernel
theorem dL_law_38 : decode cL_law 38 = .ok (.iand, 1) := by decide +kernel
theorem dL_law_39 : decode cL_law 39 = .ok (.tableswitch 498 0 8 #[49, 117, 130, 181, 237, 293, 349, 405, 473], 49) := by decide +kernel
theorem dL_law_88 : decode cL_law 88 = .ok (.aload_n 1, 1) := by decide +kernel
theorem dL_law_89 : decode cL_law 89 = .ok (.aload_n 0, 1) := by decide +kernel
theorem dL_law_90 : decode cL_law 90 = .ok (.iload 4, 2) := by decide +kernel
theorem dL_law_92 : decode cL_law 92 = .ok (.iconst 1, 1) := by decide +kernel
theorem dL_law_93 : decode cL_law 93 = .ok (.iadd, 1) := by decide +kernel
theorem dL_law_94 : decode cL_law 94 = .ok (.iaload, 1) := by decide +kernel
theorem dL_law_95 : decode cL_law 95 = .ok (.aload_n 0, 1) := by decide +kernel
theorem dL_law_96 : decode cL_law 96 = .ok (.iload 4, 2) := by decide +kernel
theorem dL_law_98 : decode cL_law 98 = .ok (.iconst 2, 1) := by decide +kernel
theorem dL_law_99 : decode cL_law 99 = .ok (.iadd, 1) := by decide +kernel
theorem dL_law_100 : decode cL_law 100 = .ok (.iaload, 1) := by decide +kernel
theorem dL_law_101 : decode cL_law 101 = .ok (.aload_n 3, 1) := by decide +kernel
theorem dL_law_102 : decode cL_law 102 = .ok (.invokestatic 43, 3) := by decide +kernel
theorem dL_law_105 : decode cL_law 105 = .ok (.istore 5, 2) := by decide +kernel
theorem dL_law_107 : decode cL_law 107 = .ok (.aload_n 2, 1) := by decide +kernel
theorem dL_law_108 : decode cL_law 108 = .ok (.aload_n 0, 1) := by decide +kernel
theorem dL_law_109 : decode cL_law 109 = .ok (.iload 4, 2) := by decide +kernel
theorem dL_law_111 : decode cL_law 111 = .ok (.iconst 1, 1) := by decide +kernel
theorem dL_law_112 : decode cL_law 112 = .ok (.iadd, 1) := by decide +kernel
theorem dL_law_113 : decode cL_law 113 = .ok (.iaload, 1) := by decide +kernel
theorem dL_law_114 : decode cL_law 114 = .ok (.aload_n 0, 1) := by decide +kernel
theorem dL_law_115 : decode cL_law 115 = .ok (.iload 4, 2) := by decide +kernel
theorem dL_law_117 : decode cL_law 117 = .ok (.iconst 2, 1) := by decide +kernel
theorem dL_law_118 : decode cL_law 118 = .ok (.iadd, 1) := by decide +kernel
theorem dL_law_119 : decode cL_law 119 = .ok (.iaload, 1) := by decide +kernel
theorem dL_law_120 : decode cL_law 120 = .ok (.invokevirtual 48, 3) := by decide +kernel
theorem dL_law_123 : decode cL_law 123 = .ok (.istore 6, 2) := by decide +kernel
theorem dL_law_125 : decode cL_law 125 = .ok (.aload_n 2, 1) := by decide +kernel
theorem dL_law_126 : decode cL_law 126 = .ok (.invokevirtual 49, 3) := by decide +kernel
theorem dL_law_129 : decode cL_law 129 = .ok (.iload 5, 2) := by decide +kernel
theorem dL_law_131 : decode cL_law 131 = .ok (.if_icmp .eq 5, 3) := by decide +kernel
theorem dL_law_134 : decode cL_law 134 = .ok (.iconst 0, 1) := by decide +kernel
theorem dL_law_135 : decode cL_law 135 = .ok (.ireturn, 1) := by decide +kernel
theorem dL_law_136 : decode cL_law 136 = .ok (.iload 5, 2) := by decide +kernel
theorem dL_law_138 : decode cL_law 138 = .ok (.ifCond .ne 15, 3) := by decide +kernel
theorem dL_law_141 : decode cL_law 141 = .ok (.aload_n 3, 1) := by decide +kernel
theorem dL_law_142 : decode cL_law 142 = .ok (.iconst 0, 1) := by decide +kernel
theorem dL_law_143 : decode cL_law 143 = .ok (.laload, 1) := by decide +kernel
theorem dL_law_144 : decode cL_law 144 = .ok (.iload 6, 2) := by decide +kernel
theorem dL_law_146 : decode cL_law 146 = .ok (.i2l, 1) := by decide +kernel
theorem dL_law_147 : decode cL_law 147 = .ok (.lcmp, 1) := by decide +kernel
theorem dL_law_148 : decode cL_law 148 = .ok (.ifCond .eq 5, 3) := by decide +kernel
theorem dL_law_151 : decode cL_law 151 = .ok (.iconst 0, 1) := by decide +kernel
theorem dL_law_152 : decode cL_law 152 = .ok (.ireturn, 1) := by decide +kernel
theorem dL_law_153 : decode cL_law 153 = .ok (.goto 384, 3) := by decide +kernel
theorem dL_law_156 : decode cL_law 156 = .ok (.aload_n 1, 1) := by decide +kernel
theorem dL_law_157 : decode cL_law 157 = .ok (.invokevirtual 53, 3) := by decide +kernel
theorem dL_law_160 : decode cL_law 160 = .ok (.aload_n 2, 1) := by decide +kernel
theorem dL_law_161 : decode cL_law 161 = .ok (.invokevirtual 56, 3) := by decide +kernel
theorem dL_law_164 : decode cL_law 164 = .ok (.if_icmp .eq 373, 3) := by decide +kernel
theorem dL_law_167 : decode cL_law 167 = .ok (.iconst 0, 1) := by decide +kernel
theorem dL_law_168 : decode cL_law 168 = .ok (.ireturn, 1) := by decide +kernel
theorem dL_law_169 : decode cL_law 169 = .ok (.aload_n 1, 1) := by decide +kernel
theorem dL_law_170 : decode cL_law 170 = .ok (.aload_n 3, 1) := by decide +kernel
theorem dL_law_171 : decode cL_law 171 = .ok (.invokestatic 57, 3) := by decide +kernel
theorem dL_law_174 : decode cL_law 174 = .ok (.istore 5, 2) := by decide +kernel
theorem dL_law_176 : decode cL_law 176 = .ok (.aload_n 2, 1) := by decide +kernel
theorem dL_law_177 : decode cL_law 177 = .ok (.invokevirtual 60, 3) := by decide +kernel
theorem dL_law_180 : decode cL_law 180 = .ok (.istore 6, 2) := by decide +kernel
theorem dL_law_182 : decode cL_law 182 = .ok (.aload_n 2, 1) := by decide +kernel
theorem dL_law_183 : decode cL_law 183 = .ok (.invokevirtual 49, 3) := by decide +kernel
theorem dL_law_186 : decode cL_law 186 = .ok (.iload 5, 2) := by decide +kernel
theorem dL_law_188 : decode cL_law 188 = .ok (.if_icmp .eq 5, 3) := by decide +kernel
theorem dL_law_191 : decode cL_law 191 = .ok (.iconst 0, 1) := by decide +kernel
theorem dL_law_192 : decode cL_law 192 = .ok (.ireturn, 1) := by decide +kernel
theorem dL_law_193 : decode cL_law 193 = .ok (.iload 5, 2) := by decide +kernel
theorem dL_law_195 : decode cL_law 195 = .ok (.ifCond .ne 22, 3) := by decide +kernel
theorem dL_law_198 : decode cL_law 198 = .ok (.aload_n 3, 1) := by decide +kernel
theorem dL_law_199 : decode cL_law 199 = .ok (.iconst 0, 1) := by decide +kernel
theorem dL_law_200 : decode cL_law 200 = .ok (.laload, 1) := by decide +kernel
theorem dL_law_201 : decode cL_law 201 = .ok (.iload 6, 2) := by decide +kernel
theorem dL_law_203 : decode cL_law 203 = .ok (.ifCond .eq 7, 3) := by decide +kernel
theorem dL_law_206 : decode cL_law 206 = .ok (.lconst 1, 1) := by decide +kernel
theorem dL_law_207 : decode cL_law 207 = .ok (.goto 4, 3) := by decide +kernel
theorem dL_law_210 : decode cL_law 210 = .ok (.lconst 0, 1) := by decide +kernel
theorem dL_law_211 : decode cL_law 211 = .ok (.lcmp, 1) := by decide +kernel
theorem dL_law_212 : decode cL_law 212 = .ok (.ifCond .eq 5, 3) := by decide +kernel
theorem dL_law_215 : decode cL_law 215 = .ok (.iconst 0, 1) := by decide +kernel
theorem dL_law_216 : decode cL_law 216 = .ok (.ireturn, 1) := by decide +kernel
theorem dL_law_217 : decode cL_law 217 = .ok (.goto 320, 3) := by decide +kernel
theorem dL_law_220 : decode cL_law 220 = .ok (.aload_n 1, 1) := by decide +kernel
theorem dL_law_221 : decode cL_law 221 = .ok (.aload_n 0, 1) := by decide +kernel
theorem dL_law_222 : decode cL_law 222 = .ok (.iload 4, 2) := by decide +kernel
theorem dL_law_224 : decode cL_law 224 = .ok (.iconst 1, 1) := by decide +kernel
theorem dL_law_225 : decode cL_law 225 = .ok (.iadd, 1) := by decide +kernel
theorem dL_law_226 : decode cL_law 226 = .ok (.iaload, 1) := by decide +kernel
theorem dL_law_227 : decode cL_law 227 = .ok (.aload_n 3, 1) := by decide +kernel
theorem dL_law_228 : decode cL_law 228 = .ok (.invokestatic 61, 3) := by decide +kernel
theorem dL_law_231 : decode cL_law 231 = .ok (.istore 5, 2) := by decide +kernel
theorem dL_law_233 : decode cL_law 233 = .ok (.aload_n 2, 1) := by decide +kernel
theorem dL_law_234 : decode cL_law 234 = .ok (.aload_n 0, 1) := by decide +kernel
theorem dL_law_235 : decode cL_law 235 = .ok (.iload 4, 2) := by decide +kernel
theorem dL_law_237 : decode cL_law 237 = .ok (.iconst 1, 1) := by decide +kernel
theorem dL_law_238 : decode cL_law 238 = .ok (.iadd, 1) := by decide +kernel
theorem dL_law_239 : decode cL_law 239 = .ok (.iaload, 1) := by decide +kernel
theorem dL_law_240 : decode cL_law 240 = .ok (.invokevirtual 64, 3) := by decide +kernel
theorem dL_law_243 : decode cL_law 243 = .ok (.istore 6, 2) := by decide +kernel
theorem dL_law_245 : decode cL_law 245 = .ok (.aload_n 2, 1) := by decide +kernel
theorem dL_law_246 : decode cL_law 246 = .ok (.invokevirtual 49, 3) := by decide +kernel
theorem dL_law_249 : decode cL_law 249 = .ok (.iload 5, 2) := by decide +kernel
theorem dL_law_251 : decode cL_law 251 = .ok (.if_icmp .eq 5, 3) := by decide +kernel
theorem dL_law_254 : decode cL_law 254 = .ok (.iconst 0, 1) := by decide +kernel
theorem dL_law_255 : decode cL_law 255 = .ok (.ireturn, 1) := by decide +kernel
theorem dL_law_256 : decode cL_law 256 = .ok (.iload 5, 2) := by decide +kernel
theorem dL_law_258 : decode cL_law 258 = .ok (.ifCond .ne 15, 3) := by decide +kernel
theorem dL_law_261 : decode cL_law 261 = .ok (.aload_n 3, 1) := by decide +kernel
theorem dL_law_262 : decode cL_law 262 = .ok (.iconst 0, 1) := by decide +kernel
theorem dL_law_263 : decode cL_law 263 = .ok (.laload, 1) := by decide +kernel
theorem dL_law_264 : decode cL_law 264 = .ok (.iload 6, 2) := by decide +kernel
theorem dL_law_266 : decode cL_law 266 = .ok (.i2l, 1) := by decide +kernel
theorem dL_law_267 : decode cL_law 267 = .ok (.lcmp, 1) := by decide +kernel
theorem dL_law_268 : decode cL_law 268 = .ok (.ifCond .eq 5, 3) := by decide +kernel
theorem dL_law_271 : decode cL_law 271 = .ok (.iconst 0, 1) := by decide +kernel
theorem dL_law_272 : decode cL_law 272 = .ok (.ireturn, 1) := by decide +kernel
theorem dL_law_273 : decode cL_law 273 = .ok (.goto 264, 3) := by decide +kernel
theorem dL_law_276 : decode cL_law 276 = .ok (.aload_n 1, 1) := by decide +kernel
theorem dL_law_277 : decode cL_law 277 = .ok (.aload_n 0, 1) := by decide +kernel
theorem dL_law_278 : decode cL_law 278 = .ok (.iload 4, 2) := by decide +kernel
theorem dL_law_280 : decode cL_law 280 = .ok (.iconst 1, 1) := by decide +kernel
theorem dL_law_281 : decode cL_law 281 = .ok (.iadd, 1) := by decide +kernel
theorem dL_law_282 : decode cL_law 282 = .ok (.iaload, 1) := by decide +kernel
theorem dL_law_283 : decode cL_law 283 = .ok (.aload_n 3, 1) := by decide +kernel
theorem dL_law_284 : decode cL_law 284 = .ok (.invokestatic 65, 3) := by decide +kernel
theorem dL_law_287 : decode cL_law 287 = .ok (.istore 5, 2) := by decide +kernel
theorem dL_law_289 : decode cL_law 289 = .ok (.aload_n 2, 1) := by decide +kernel
theorem dL_law_290 : decode cL_law 290 = .ok (.aload_n 0, 1) := by decide +kernel
theorem dL_law_291 : decode cL_law 291 = .ok (.iload 4, 2) := by decide +kernel
theorem dL_law_293 : decode cL_law 293 = .ok (.iconst 1, 1) := by decide +kernel
theorem dL_law_294 : decode cL_law 294 = .ok (.iadd, 1) := by decide +kernel
theorem dL_law_295 : decode cL_law 295 = .ok (.iaload, 1) := by decide +kernel
theorem dL_law_296 : decode cL_law 296 = .ok (.invokevirtual 67, 3) := by decide +kernel
theorem dL_law_299 : decode cL_law 299 = .ok (.istore 6, 2) := by decide +kernel
theorem dL_law_301 : decode cL_law 301 = .ok (.aload_n 2, 1) := by decide +kernel
theorem dL_law_302 : decode cL_law 302 = .ok (.invokevirtual 49, 3) := by decide +kernel
theorem dL_law_305 : decode cL_law 305 = .ok (.iload 5, 2) := by decide +kernel
theorem dL_law_307 : decode cL_law 307 = .ok (.if_icmp .eq 5, 3) := by decide +kernel
theorem dL_law_310 : decode cL_law 310 = .ok (.iconst 0, 1) := by decide +kernel
theorem dL_law_311 : decode cL_law 311 = .ok (.ireturn, 1) := by decide +kernel
theorem dL_law_312 : decode cL_law 312 = .ok (.iload 5, 2) := by decide +kernel
theorem dL_law_314 : decode cL_law 314 = .ok (.ifCond .ne 15, 3) := by decide +kernel
theorem dL_law_317 : decode cL_law 317 = .ok (.aload_n 3, 1) := by decide +kernel
theorem dL_law_318 : decode cL_law 318 = .ok (.iconst 0, 1) := by decide +kernel
theorem dL_law_319 : decode cL_law 319 = .ok (.laload, 1) := by decide +kernel
theorem dL_law_320 : decode cL_law 320 = .ok (.iload 6, 2) := by decide +kernel
theorem dL_law_322 : decode cL_law 322 = .ok (.i2l, 1) := by decide +kernel
theorem dL_law_323 : decode cL_law 323 = .ok (.lcmp, 1) := by decide +kernel
theorem dL_law_324 : decode cL_law 324 = .ok (.ifCond .eq 5, 3) := by decide +kernel
theorem dL_law_327 : decode cL_law 327 = .ok (.iconst 0, 1) := by decide +kernel
theorem dL_law_328 : decode cL_law 328 = .ok (.ireturn, 1) := by decide +kernel
theorem dL_law_329 : decode cL_law 329 = .ok (.goto 208, 3) := by decide +kernel
theorem dL_law_332 : decode cL_law 332 = .ok (.aload_n 1, 1) := by decide +kernel
theorem dL_law_333 : decode cL_law 333 = .ok (.aload_n 0, 1) := by decide +kernel
theorem dL_law_334 : decode cL_law 334 = .ok (.iload 4, 2) := by decide +kernel
theorem dL_law_336 : decode cL_law 336 = .ok (.iconst 1, 1) := by decide +kernel
theorem dL_law_337 : decode cL_law 337 = .ok (.iadd, 1) := by decide +kernel
theorem dL_law_338 : decode cL_law 338 = .ok (.iaload, 1) := by decide +kernel
theorem dL_law_339 : decode cL_law 339 = .ok (.aload_n 3, 1) := by decide +kernel
theorem dL_law_340 : decode cL_law 340 = .ok (.invokestatic 68, 3) := by decide +kernel
theorem dL_law_343 : decode cL_law 343 = .ok (.istore 5, 2) := by decide +kernel
theorem dL_law_345 : decode cL_law 345 = .ok (.aload_n 2, 1) := by decide +kernel
theorem dL_law_346 : decode cL_law 346 = .ok (.aload_n 0, 1) := by decide +kernel
theorem dL_law_347 : decode cL_law 347 = .ok (.iload 4, 2) := by decide +kernel
theorem dL_law_349 : decode cL_law 349 = .ok (.iconst 1, 1) := by decide +kernel
theorem dL_law_350 : decode cL_law 350 = .ok (.iadd, 1) := by decide +kernel
theorem dL_law_351 : decode cL_law 351 = .ok (.iaload, 1) := by decide +kernel
theorem dL_law_352 : decode cL_law 352 = .ok (.invokevirtual 70, 3) := by decide +kernel
theorem dL_law_355 : decode cL_law 355 = .ok (.istore 6, 2) := by decide +kernel
theorem dL_law_357 : decode cL_law 357 = .ok (.aload_n 2, 1) := by decide +kernel
theorem dL_law_358 : decode cL_law 358 = .ok (.invokevirtual 49, 3) := by decide +kernel
theorem dL_law_361 : decode cL_law 361 = .ok (.iload 5, 2) := by decide +kernel
theorem dL_law_363 : decode cL_law 363 = .ok (.if_icmp .eq 5, 3) := by decide +kernel
theorem dL_law_366 : decode cL_law 366 = .ok (.iconst 0, 1) := by decide +kernel
theorem dL_law_367 : decode cL_law 367 = .ok (.ireturn, 1) := by decide +kernel
theorem dL_law_368 : decode cL_law 368 = .ok (.iload 5, 2) := by decide +kernel
theorem dL_law_370 : decode cL_law 370 = .ok (.ifCond .ne 15, 3) := by decide +kernel
theorem dL_law_373 : decode cL_law 373 = .ok (.aload_n 3, 1) := by decide +kernel
theorem dL_law_374 : decode cL_law 374 = .ok (.iconst 0, 1) := by decide +kernel
theorem dL_law_375 : decode cL_law 375 = .ok (.laload, 1) := by decide +kernel
theorem dL_law_376 : decode cL_law 376 = .ok (.iload 6, 2) := by decide +kernel
theorem dL_law_378 : decode cL_law 378 = .ok (.i2l, 1) := by decide +kernel
theorem dL_law_379 : decode cL_law 379 = .ok (.lcmp, 1) := by decide +kernel
theorem dL_law_380 : decode cL_law 380 = .ok (.ifCond .eq 5, 3) := by decide +kernel
theorem dL_law_383 : decode cL_law 383 = .ok (.iconst 0, 1) := by decide +kernel
theorem dL_law_384 : decode cL_law 384 = .ok (.ireturn, 1) := by decide +kernel
theorem dL_law_385 : decode cL_law 385 = .ok (.goto 152, 3) := by decide +kernel
theorem dL_law_388 : decode cL_law 388 = .ok (.aload_n 1, 1) := by decide +kernel
theorem dL_law_389 : decode cL_law 389 = .ok (.aload_n 0, 1) := by decide +kernel
theorem dL_law_390 : decode cL_law 390 = .ok (.iload 4, 2) := by decide +kernel
theorem dL_law_392 : decode cL_law 392 = .ok (.iconst 1, 1) := by decide +kernel
theorem dL_law_393 : decode cL_law 393 = .ok (.iadd, 1) := by decide +kernel
theorem dL_law_394 : decode cL_law 394 = .ok (.iaload, 1) := by decide +kernel
theorem dL_law_395 : decode cL_law 395 = .ok (.aload_n 3, 1) := by decide +kernel
theorem dL_law_396 : decode cL_law 396 = .ok (.invokestatic 71, 3) := by decide +kernel
theorem dL_law_399 : decode cL_law 399 = .ok (.istore 5, 2) := by decide +kernel
theorem dL_law_401 : decode cL_law 401 = .ok (.aload_n 2, 1) := by decide +kernel
theorem dL_law_402 : decode cL_law 402 = .ok (.aload_n 0, 1) := by decide +kernel
theorem dL_law_403 : decode cL_law 403 = .ok (.iload 4, 2) := by decide +kernel
theorem dL_law_405 : decode cL_law 405 = .ok (.iconst 1, 1) := by decide +kernel
theorem dL_law_406 : decode cL_law 406 = .ok (.iadd, 1) := by decide +kernel
theorem dL_law_407 : decode cL_law 407 = .ok (.iaload, 1) := by decide +kernel
theorem dL_law_408 : decode cL_law 408 = .ok (.invokevirtual 73, 3) := by decide +kernel
theorem dL_law_411 : decode cL_law 411 = .ok (.istore 6, 2) := by decide +kernel
theorem dL_law_413 : decode cL_law 413 = .ok (.aload_n 2, 1) := by decide +kernel
theorem dL_law_414 : decode cL_law 414 = .ok (.invokevirtual 49, 3) := by decide +kernel
theorem dL_law_417 : decode cL_law 417 = .ok (.iload 5, 2) := by decide +kernel
theorem dL_law_419 : decode cL_law 419 = .ok (.if_icmp .eq 5, 3) := by decide +kernel
theorem dL_law_422 : decode cL_law 422 = .ok (.iconst 0, 1) := by decide +kernel
theorem dL_law_423 : decode cL_law 423 = .ok (.ireturn, 1) := by decide +kernel
theorem dL_law_424 : decode cL_law 424 = .ok (.iload 5, 2) := by decide +kernel
theorem dL_law_426 : decode cL_law 426 = .ok (.ifCond .ne 15, 3) := by decide +kernel
theorem dL_law_429 : decode cL_law 429 = .ok (.aload_n 3, 1) := by decide +kernel
theorem dL_law_430 : decode cL_law 430 = .ok (.iconst 0, 1) := by decide +kernel
theorem dL_law_431 : decode cL_law 431 = .ok (.laload, 1) := by decide +kernel
theorem dL_law_432 : decode cL_law 432 = .ok (.iload 6, 2) := by decide +kernel
theorem dL_law_434 : decode cL_law 434 = .ok (.i2l, 1) := by decide +kernel
theorem dL_law_435 : decode cL_law 435 = .ok (.lcmp, 1) := by decide +kernel
theorem dL_law_436 : decode cL_law 436 = .ok (.ifCond .eq 5, 3) := by decide +kernel
theorem dL_law_439 : decode cL_law 439 = .ok (.iconst 0, 1) := by decide +kernel
theorem dL_law_440 : decode cL_law 440 = .ok (.ireturn, 1) := by decide +kernel
theorem dL_law_441 : decode cL_law 441 = .ok (.goto 96, 3) := by decide +kernel
theorem dL_law_444 : decode cL_law 444 = .ok (.aload_n 1, 1) := by decide +kernel
theorem dL_law_445 : decode cL_law 445 = .ok (.aload_n 0, 1) := by decide +kernel
theorem dL_law_446 : decode cL_law 446 = .ok (.iload 4, 2) := by decide +kernel
theorem dL_law_448 : decode cL_law 448 = .ok (.iconst 1, 1) := by decide +kernel
theorem dL_law_449 : decode cL_law 449 = .ok (.iadd, 1) := by decide +kernel
theorem dL_law_450 : decode cL_law 450 = .ok (.iaload, 1) := by decide +kernel
theorem dL_law_451 : decode cL_law 451 = .ok (.aload_n 0, 1) := by decide +kernel
theorem dL_law_452 : decode cL_law 452 = .ok (.iload 4, 2) := by decide +kernel
theorem dL_law_454 : decode cL_law 454 = .ok (.iconst 2, 1) := by decide +kernel
theorem dL_law_455 : decode cL_law 455 = .ok (.iadd, 1) := by decide +kernel
theorem dL_law_456 : decode cL_law 456 = .ok (.iaload, 1) := by decide +kernel
theorem dL_law_457 : decode cL_law 457 = .ok (.aload_n 3, 1) := by decide +kernel
theorem dL_law_458 : decode cL_law 458 = .ok (.invokestatic 74, 3) := by decide +kernel
theorem dL_law_461 : decode cL_law 461 = .ok (.istore 5, 2) := by decide +kernel
theorem dL_law_463 : decode cL_law 463 = .ok (.aload_n 2, 1) := by decide +kernel
theorem dL_law_464 : decode cL_law 464 = .ok (.aload_n 0, 1) := by decide +kernel
theorem dL_law_465 : decode cL_law 465 = .ok (.iload 4, 2) := by decide +kernel
theorem dL_law_467 : decode cL_law 467 = .ok (.iconst 1, 1) := by decide +kernel
theorem dL_law_468 : decode cL_law 468 = .ok (.iadd, 1) := by decide +kernel
theorem dL_law_469 : decode cL_law 469 = .ok (.iaload, 1) := by decide +kernel
theorem dL_law_470 : decode cL_law 470 = .ok (.aload_n 0, 1) := by decide +kernel
theorem dL_law_471 : decode cL_law 471 = .ok (.iload 4, 2) := by decide +kernel
theorem dL_law_473 : decode cL_law 473 = .ok (.iconst 2, 1) := by decide +kernel
theorem dL_law_474 : decode cL_law 474 = .ok (.iadd, 1) := by decide +kernel
theorem dL_law_475 : decode cL_law 475 = .ok (.iaload, 1) := by decide +kernel
theorem dL_law_476 : decode cL_law 476 = .ok (.invokevirtual 76, 3) := by decide +kernel
theorem dL_law_479 : decode cL_law 479 = .ok (.istore 6, 2) := by decide +kernel
theorem dL_law_481 : decode cL_law 481 = .ok (.aload_n 2, 1) := by decide +kernel
theorem dL_law_482 : decode cL_law 482 = .ok (.invokevirtual 49, 3) := by decide +kernel
theorem dL_law_485 : decode cL_law 485 = .ok (.iload 5, 2) := by decide +kernel
theorem dL_law_487 : decode cL_law 487 = .ok (.if_icmp .eq 5, 3) := by decide +kernel
theorem dL_law_490 : decode cL_law 490 = .ok (.iconst 0, 1) := by decide +kernel
theorem dL_law_491 : decode cL_law 491 = .ok (.ireturn, 1) := by decide +kernel
theorem dL_law_492 : decode cL_law 492 = .ok (.iload 5, 2) := by decide +kernel
theorem dL_law_494 : decode cL_law 494 = .ok (.ifCond .ne 15, 3) := by decide +kernel
theorem dL_law_497 : decode cL_law 497 = .ok (.aload_n 3, 1) := by decide +kernel
theorem dL_law_498 : decode cL_law 498 = .ok (.iconst 0, 1) := by decide +kernel
theorem dL_law_499 : decode cL_law 499 = .ok (.laload, 1) := by decide +kernel
theorem dL_law_500 : decode cL_law 500 = .ok (.iload 6, 2) := by decide +kernel
theorem dL_law_502 : decode cL_law 502 = .ok (.i2l, 1) := by decide +kernel
theorem dL_law_503 : decode cL_law 503 = .ok (.lcmp, 1) := by decide +kernel
theorem dL_law_504 : decode cL_law 504 = .ok (.ifCond .eq 5, 3) := by decide +kernel
theorem dL_law_507 : decode cL_law 507 = .ok (.iconst 0, 1) := by decide +kernel
theorem dL_law_508 : decode cL_law 508 = .ok (.ireturn, 1) := by decide +kernel
theorem dL_law_509 : decode cL_law 509 = .ok (.goto 28, 3) := by decide +kernel
theorem dL_law_512 : decode cL_law 512 = .ok (.aload_n 1, 1) := by decide +kernel
theorem dL_law_513 : decode cL_law 513 = .ok (.aload_n 0, 1) := by decide +kernel
theorem dL_law_514 : decode cL_law 514 = .ok (.iload 4, 2) := by decide +kernel
theorem dL_law_516 : decode cL_law 516 = .ok (.iconst 1, 1) := by decide +kernel
theorem dL_law_517 : decode cL_law 517 = .ok (.iadd, 1) := by decide +kernel
theorem dL_law_518 : decode cL_law 518 = .ok (.iaload, 1) := by decide +kernel
theorem dL_law_519 : decode cL_law 519 = .ok (.invokevirtual 77, 3) := by decide +kernel
theorem dL_law_522 : decode cL_law 522 = .ok (.aload_n 2, 1) := by decide +kernel
theorem dL_law_523 : decode cL_law 523 = .ok (.aload_n 0, 1) := by decide +kernel
theorem dL_law_524 : decode cL_law 524 = .ok (.iload 4, 2) := by decide +kernel
theorem dL_law_526 : decode cL_law 526 = .ok (.iconst 1, 1) := by decide +kernel
theorem dL_law_527 : decode cL_law 527 = .ok (.iadd, 1) := by decide +kernel
theorem dL_law_528 : decode cL_law 528 = .ok (.iaload, 1) := by decide +kernel
theorem dL_law_529 : decode cL_law 529 = .ok (.invokevirtual 80, 3) := by decide +kernel
theorem dL_law_532 : decode cL_law 532 = .ok (.if_icmp .eq 5, 3) := by decide +kernel
theorem dL_law_535 : decode cL_law 535 = .ok (.iconst 0, 1) := by decide +kernel
theorem dL_law_536 : decode cL_law 536 = .ok (.ireturn, 1) := by decide +kernel
theorem dL_law_537 : decode cL_law 537 = .ok (.iinc 4 3, 3) := by decide +kernel
theorem dL_law_540 : decode cL_law 540 = .ok (.goto (-517), 3) := by decide +kernel
theorem dL_law_543 : decode cL_law 543 = .ok (.iconst 1, 1) := by decide +kernel
theorem dL_law_544 : decode cL_law 544 = .ok (.ireturn, 1) := by decide +kernel
end
section
theorem dX6_init_0 : decode cX6_init 0 = .ok (.aload_n 0, 1) := by decide +kernel
theorem dX6_init_1 : decode cX6_init 1 = .ok (.invokespecial 1, 3) := by decide +kernel
theorem dX6_init_4 : decode cX6_init 4 = .ok (.aload_n 0, 1) := by decide +kernel
theorem dX6_init_5 : decode cX6_init 5 = .ok (.sipush 161, 3) := by decide +kernel
theorem dX6_init_8 : decode cX6_init 8 = .ok (.newarray .int, 2) := by decide +kernel
theorem dX6_init_10 : decode cX6_init 10 = .ok (.putfield 7, 3) := by decide +kernel
theorem dX6_init_13 : decode cX6_init 13 = .ok (.aload_n 0, 1) := by decide +kernel
theorem dX6_init_14 : decode cX6_init 14 = .ok (.sipush 600, 3) := by decide +kernel
theorem dX6_init_17 : decode cX6_init 17 = .ok (.newarray .int, 2) := by decide +kernel
theorem dX6_init_19 : decode cX6_init 19 = .ok (.putfield 13, 3) := by decide +kernel
theorem dX6_init_22 : decode cX6_init 22 = .ok (.aload_n 0, 1) := by decide +kernel
theorem dX6_init_23 : decode cX6_init 23 = .ok (.sipush 600, 3) := by decide +kernel
theorem dX6_init_26 : decode cX6_init 26 = .ok (.newarray .int, 2) := by decide +kernel
theorem dX6_init_28 : decode cX6_init 28 = .ok (.putfield 16, 3) := by decide +kernel
theorem dX6_init_31 : decode cX6_init 31 = .ok (.aload_n 0, 1) := by decide +kernel
theorem dX6_init_32 : decode cX6_init 32 = .ok (.sipush 600, 3) := by decide +kernel
theorem dX6_init_35 : decode cX6_init 35 = .ok (.newarray .int, 2) := by decide +kernel
theorem dX6_init_37 : decode cX6_init 37 = .ok (.putfield 19, 3) := by decide +kernel
theorem dX6_init_40 : decode cX6_init 40 = .ok (.aload_n 0, 1) := by decide +kernel
theorem dX6_init_41 : decode cX6_init 41 = .ok (.sipush 600, 3) := by decide +kernel
theorem dX6_init_44 : decode cX6_init 44 = .ok (.newarray .int, 2) := by decide +kernel
theorem dX6_init_46 : decode cX6_init 46 = .ok (.putfield 22, 3) := by decide +kernel
theorem dX6_init_49 : decode cX6_init 49 = .ok (.aload_n 0, 1) := by decide +kernel
theorem dX6_init_50 : decode cX6_init 50 = .ok (.bipush 6, 2) := by decide +kernel
theorem dX6_init_52 : decode cX6_init 52 = .ok (.newarray .int, 2) := by decide +kernel
theorem dX6_init_54 : decode cX6_init 54 = .ok (.putfield 25, 3) := by decide +kernel
theorem dX6_init_57 : decode cX6_init 57 = .ok (.aload_n 0, 1) := by decide +kernel
theorem dX6_init_58 : decode cX6_init 58 = .ok (.bipush 6, 2) := by decide +kernel
theorem dX6_init_60 : decode cX6_init 60 = .ok (.newarray .int, 2) := by decide +kernel
theorem dX6_init_62 : decode cX6_init 62 = .ok (.putfield 28, 3) := by decide +kernel
theorem dX6_init_65 : decode cX6_init 65 = .ok (.aload_n 0, 1) := by decide +kernel
theorem dX6_init_66 : decode cX6_init 66 = .ok (.bipush 6, 2) := by decide +kernel
theorem dX6_init_68 : decode cX6_init 68 = .ok (.newarray .int, 2) := by decide +kernel
theorem dX6_init_70 : decode cX6_init 70 = .ok (.putfield 31, 3) := by decide +kernel
theorem dX6_init_73 : decode cX6_init 73 = .ok (.aload_n 0, 1) := by decide +kernel
theorem dX6_init_74 : decode cX6_init 74 = .ok (.bipush 6, 2) := by decide +kernel
theorem dX6_init_76 : decode cX6_init 76 = .ok (.newarray .int, 2) := by decide +kernel
theorem dX6_init_78 : decode cX6_init 78 = .ok (.putfield 34, 3) := by decide +kernel
theorem dX6_init_81 : decode cX6_init 81 = .ok (.aload_n 0, 1) := by decide +kernel
theorem dX6_init_82 : decode cX6_init 82 = .ok (.sipush 160, 3) := by decide +kernel
theorem dX6_init_85 : decode cX6_init 85 = .ok (.newarray .int, 2) := by decide +kernel
theorem dX6_init_87 : decode cX6_init 87 = .ok (.putfield 37, 3) := by decide +kernel
theorem dX6_init_90 : decode cX6_init 90 = .ok (.aload_n 0, 1) := by decide +kernel
theorem dX6_init_91 : decode cX6_init 91 = .ok (.sipush 160, 3) := by decide +kernel
theorem dX6_init_94 : decode cX6_init 94 = .ok (.newarray .int, 2) := by decide +kernel
theorem dX6_init_96 : decode cX6_init 96 = .ok (.putfield 40, 3) := by decide +kernel
theorem dX6_init_99 : decode cX6_init 99 = .ok (.aload_n 0, 1) := by decide +kernel
theorem dX6_init_100 : decode cX6_init 100 = .ok (.sipush 160, 3) := by decide +kernel
theorem dX6_init_103 : decode cX6_init 103 = .ok (.newarray .int, 2) := by decide +kernel
theorem dX6_init_105 : decode cX6_init 105 = .ok (.putfield 43, 3) := by decide +kernel
theorem dX6_init_108 : decode cX6_init 108 = .ok (.aload_n 0, 1) := by decide +kernel
theorem dX6_init_109 : decode cX6_init 109 = .ok (.iconst 5, 1) := by decide +kernel
theorem dX6_init_110 : decode cX6_init 110 = .ok (.newarray .int, 2) := by decide +kernel
theorem dX6_init_112 : decode cX6_init 112 = .ok (.putfield 46, 3) := by decide +kernel
theorem dX6_init_115 : decode cX6_init 115 = .ok (.aload_n 0, 1) := by decide +kernel
theorem dX6_init_116 : decode cX6_init 116 = .ok (.iconst 5, 1) := by decide +kernel
theorem dX6_init_117 : decode cX6_init 117 = .ok (.newarray .int, 2) := by decide +kernel
theorem dX6_init_119 : decode cX6_init 119 = .ok (.putfield 49, 3) := by decide +kernel
theorem dX6_init_122 : decode cX6_init 122 = .ok (.aload_n 0, 1) := by decide +kernel
theorem dX6_init_123 : decode cX6_init 123 = .ok (.iconst 5, 1) := by decide +kernel
theorem dX6_init_124 : decode cX6_init 124 = .ok (.newarray .int, 2) := by decide +kernel
theorem dX6_init_126 : decode cX6_init 126 = .ok (.putfield 52, 3) := by decide +kernel
theorem dX6_init_129 : decode cX6_init 129 = .ok (.aload_n 0, 1) := by decide +kernel
theorem dX6_init_130 : decode cX6_init 130 = .ok (.iconst 5, 1) := by decide +kernel
theorem dX6_init_131 : decode cX6_init 131 = .ok (.newarray .int, 2) := by decide +kernel
theorem dX6_init_133 : decode cX6_init 133 = .ok (.putfield 55, 3) := by decide +kernel
theorem dX6_init_136 : decode cX6_init 136 = .ok (.aload_n 0, 1) := by decide +kernel
theorem dX6_init_137 : decode cX6_init 137 = .ok (.iconst 5, 1) := by decide +kernel
theorem dX6_init_138 : decode cX6_init 138 = .ok (.newarray .int, 2) := by decide +kernel
theorem dX6_init_140 : decode cX6_init 140 = .ok (.putfield 58, 3) := by decide +kernel
theorem dX6_init_143 : decode cX6_init 143 = .ok (.aload_n 0, 1) := by decide +kernel
theorem dX6_init_144 : decode cX6_init 144 = .ok (.iconst 5, 1) := by decide +kernel
theorem dX6_init_145 : decode cX6_init 145 = .ok (.newarray .int, 2) := by decide +kernel
theorem dX6_init_147 : decode cX6_init 147 = .ok (.putfield 61, 3) := by decide +kernel
theorem dX6_init_150 : decode cX6_init 150 = .ok (.aload_n 0, 1) := by decide +kernel
theorem dX6_init_151 : decode cX6_init 151 = .ok (.iconst 5, 1) := by decide +kernel
theorem dX6_init_152 : decode cX6_init 152 = .ok (.newarray .int, 2) := by decide +kernel
theorem dX6_init_154 : decode cX6_init 154 = .ok (.putfield 64, 3) := by decide +kernel
theorem dX6_init_157 : decode cX6_init 157 = .ok (.aload_n 0, 1) := by decide +kernel
theorem dX6_init_158 : decode cX6_init 158 = .ok (.bipush 64, 2) := by decide +kernel
theorem dX6_init_160 : decode cX6_init 160 = .ok (.newarray .int, 2) := by decide +kernel
theorem dX6_init_162 : decode cX6_init 162 = .ok (.putfield 67, 3) := by decide +kernel
theorem dX6_init_165 : decode cX6_init 165 = .ok (.aload_n 0, 1) := by decide +kernel
theorem dX6_init_166 : decode cX6_init 166 = .ok (.bipush 64, 2) := by decide +kernel
theorem dX6_init_168 : decode cX6_init 168 = .ok (.newarray .int, 2) := by decide +kernel
theorem dX6_init_170 : decode cX6_init 170 = .ok (.putfield 70, 3) := by decide +kernel
theorem dX6_init_173 : decode cX6_init 173 = .ok (.aload_n 0, 1) := by decide +kernel
theorem dX6_init_174 : decode cX6_init 174 = .ok (.bipush 8, 2) := by decide +kernel
theorem dX6_init_176 : decode cX6_init 176 = .ok (.newarray .int, 2) := by decide +kernel
theorem dX6_init_178 : decode cX6_init 178 = .ok (.putfield 73, 3) := by decide +kernel
theorem dX6_init_181 : decode cX6_init 181 = .ok (.aload_n 0, 1) := by decide +kernel
theorem dX6_init_182 : decode cX6_init 182 = .ok (.bipush 32, 2) := by decide +kernel
theorem dX6_init_184 : decode cX6_init 184 = .ok (.newarray .int, 2) := by decide +kernel
theorem dX6_init_186 : decode cX6_init 186 = .ok (.putfield 76, 3) := by decide +kernel
theorem dX6_init_189 : decode cX6_init 189 = .ok (.aload_n 0, 1) := by decide +kernel
theorem dX6_init_190 : decode cX6_init 190 = .ok (.bipush 8, 2) := by decide +kernel
theorem dX6_init_192 : decode cX6_init 192 = .ok (.newarray .int, 2) := by decide +kernel
theorem dX6_init_194 : decode cX6_init 194 = .ok (.putfield 79, 3) := by decide +kernel
theorem dX6_init_197 : decode cX6_init 197 = .ok (.aload_n 0, 1) := by decide +kernel
theorem dX6_init_198 : decode cX6_init 198 = .ok (.bipush 32, 2) := by decide +kernel
theorem dX6_init_200 : decode cX6_init 200 = .ok (.newarray .int, 2) := by decide +kernel
theorem dX6_init_202 : decode cX6_init 202 = .ok (.putfield 82, 3) := by decide +kernel
theorem dX6_init_205 : decode cX6_init 205 = .ok (.aload_n 0, 1) := by decide +kernel
theorem dX6_init_206 : decode cX6_init 206 = .ok (.bipush 80, 2) := by decide +kernel
theorem dX6_init_208 : decode cX6_init 208 = .ok (.newarray .int, 2) := by decide +kernel
theorem dX6_init_210 : decode cX6_init 210 = .ok (.putfield 85, 3) := by decide +kernel
theorem dX6_init_213 : decode cX6_init 213 = .ok (.aload_n 0, 1) := by decide +kernel
theorem dX6_init_214 : decode cX6_init 214 = .ok (.bipush 10, 2) := by decide +kernel
theorem dX6_init_216 : decode cX6_init 216 = .ok (.newarray .int, 2) := by decide +kernel
theorem dX6_init_218 : decode cX6_init 218 = .ok (.putfield 88, 3) := by decide +kernel
theorem dX6_init_221 : decode cX6_init 221 = .ok (.aload_n 0, 1) := by decide +kernel
theorem dX6_init_222 : decode cX6_init 222 = .ok (.bipush 10, 2) := by decide +kernel
theorem dX6_init_224 : decode cX6_init 224 = .ok (.newarray .int, 2) := by decide +kernel
theorem dX6_init_226 : decode cX6_init 226 = .ok (.putfield 91, 3) := by decide +kernel
theorem dX6_init_229 : decode cX6_init 229 = .ok (.aload_n 0, 1) := by decide +kernel
theorem dX6_init_230 : decode cX6_init 230 = .ok (.sipush 1000, 3) := by decide +kernel
theorem dX6_init_233 : decode cX6_init 233 = .ok (.newarray .int, 2) := by decide +kernel
theorem dX6_init_235 : decode cX6_init 235 = .ok (.putfield 94, 3) := by decide +kernel
theorem dX6_init_238 : decode cX6_init 238 = .ok (.return_, 1) := by decide +kernel
theorem dX6_thrown_0 : decode cX6_thrown 0 = .ok (.aload_n 0, 1) := by decide +kernel
theorem dX6_thrown_1 : decode cX6_thrown 1 = .ok (.getfield 97, 3) := by decide +kernel
theorem dX6_thrown_4 : decode cX6_thrown 4 = .ok (.ireturn, 1) := by decide +kernel
theorem dX6_words_0 : decode cX6_words 0 = .ok (.iload_n 2, 1) := by decide +kernel
theorem dX6_words_1 : decode cX6_words 1 = .ok (.iconst 1, 1) := by decide +kernel
theorem dX6_words_2 : decode cX6_words 2 = .ok (.if_icmp .lt 12, 3) := by decide +kernel
theorem dX6_words_5 : decode cX6_words 5 = .ok (.iload_n 2, 1) := by decide +kernel
theorem dX6_words_6 : decode cX6_words 6 = .ok (.iconst 4, 1) := by decide +kernel
theorem dX6_words_7 : decode cX6_words 7 = .ok (.if_icmp .gt 7, 3) := by decide +kernel
theorem dX6_words_10 : decode cX6_words 10 = .ok (.iconst 1, 1) := by decide +kernel
theorem dX6_words_11 : decode cX6_words 11 = .ok (.goto 4, 3) := by decide +kernel
theorem dX6_words_14 : decode cX6_words 14 = .ok (.iconst 0, 1) := by decide +kernel
theorem dX6_words_15 : decode cX6_words 15 = .ok (.istore_n 3, 1) := by decide +kernel
theorem dX6_words_16 : decode cX6_words 16 = .ok (.iconst 0, 1) := by decide +kernel
theorem dX6_words_17 : decode cX6_words 17 = .ok (.istore 4, 2) := by decide +kernel
theorem dX6_words_19 : decode cX6_words 19 = .ok (.iload 4, 2) := by decide +kernel
theorem dX6_words_21 : decode cX6_words 21 = .ok (.iload_n 2, 1) := by decide +kernel
theorem dX6_words_22 : decode cX6_words 22 = .ok (.if_icmp .ge 36, 3) := by decide +kernel
theorem dX6_words_25 : decode cX6_words 25 = .ok (.iload_n 3, 1) := by decide +kernel
theorem dX6_words_26 : decode cX6_words 26 = .ok (.ifCond .eq 32, 3) := by decide +kernel
theorem dX6_words_29 : decode cX6_words 29 = .ok (.iload_n 1, 1) := by decide +kernel
theorem dX6_words_30 : decode cX6_words 30 = .ok (.bipush 8, 2) := by decide +kernel
theorem dX6_words_32 : decode cX6_words 32 = .ok (.iload 4, 2) := by decide +kernel
theorem dX6_words_34 : decode cX6_words 34 = .ok (.imul, 1) := by decide +kernel
theorem dX6_words_35 : decode cX6_words 35 = .ok (.ishr, 1) := by decide +kernel
theorem dX6_words_36 : decode cX6_words 36 = .ok (.sipush 255, 3) := by decide +kernel
theorem dX6_words_39 : decode cX6_words 39 = .ok (.iand, 1) := by decide +kernel
theorem dX6_words_40 : decode cX6_words 40 = .ok (.sipush 191, 3) := by decide +kernel
theorem dX6_words_43 : decode cX6_words 43 = .ok (.if_icmp .gt 7, 3) := by decide +kernel
theorem dX6_words_46 : decode cX6_words 46 = .ok (.iconst 1, 1) := by decide +kernel
theorem dX6_words_47 : decode cX6_words 47 = .ok (.goto 4, 3) := by decide +kernel
theorem dX6_words_50 : decode cX6_words 50 = .ok (.iconst 0, 1) := by decide +kernel
theorem dX6_words_51 : decode cX6_words 51 = .ok (.istore_n 3, 1) := by decide +kernel
theorem dX6_words_52 : decode cX6_words 52 = .ok (.iinc 4 1, 3) := by decide +kernel
theorem dX6_words_55 : decode cX6_words 55 = .ok (.goto (-36), 3) := by decide +kernel
theorem dX6_words_58 : decode cX6_words 58 = .ok (.aload_n 0, 1) := by decide +kernel
theorem dX6_words_59 : decode cX6_words 59 = .ok (.iload_n 3, 1) := by decide +kernel
theorem dX6_words_60 : decode cX6_words 60 = .ok (.ifCond .ne 7, 3) := by decide +kernel
theorem dX6_words_63 : decode cX6_words 63 = .ok (.iconst 1, 1) := by decide +kernel
theorem dX6_words_64 : decode cX6_words 64 = .ok (.goto 20, 3) := by decide +kernel
theorem dX6_words_67 : decode cX6_words 67 = .ok (.aload_n 0, 1) := by decide +kernel
theorem dX6_words_68 : decode cX6_words 68 = .ok (.getfield 101, 3) := by decide +kernel
theorem dX6_words_71 : decode cX6_words 71 = .ok (.iload_n 2, 1) := by decide +kernel
theorem dX6_words_72 : decode cX6_words 72 = .ok (.iadd, 1) := by decide +kernel
theorem dX6_words_73 : decode cX6_words 73 = .ok (.sipush 160, 3) := by decide +kernel
theorem dX6_words_76 : decode cX6_words 76 = .ok (.if_icmp .le 7, 3) := by decide +kernel
theorem dX6_words_79 : decode cX6_words 79 = .ok (.iconst 2, 1) := by decide +kernel
theorem dX6_words_80 : decode cX6_words 80 = .ok (.goto 4, 3) := by decide +kernel
theorem dX6_words_83 : decode cX6_words 83 = .ok (.iconst 0, 1) := by decide +kernel
theorem dX6_words_84 : decode cX6_words 84 = .ok (.putfield 97, 3) := by decide +kernel
theorem dX6_words_87 : decode cX6_words 87 = .ok (.iload_n 2, 1) := by decide +kernel
theorem dX6_words_88 : decode cX6_words 88 = .ok (.iconst 1, 1) := by decide +kernel
theorem dX6_words_89 : decode cX6_words 89 = .ok (.isub, 1) := by decide +kernel
theorem dX6_words_90 : decode cX6_words 90 = .ok (.istore 4, 2) := by decide +kernel
theorem dX6_words_92 : decode cX6_words 92 = .ok (.iload 4, 2) := by decide +kernel
theorem dX6_words_94 : decode cX6_words 94 = .ok (.ifCond .lt 46, 3) := by decide +kernel
theorem dX6_words_97 : decode cX6_words 97 = .ok (.aload_n 0, 1) := by decide +kernel
theorem dX6_words_98 : decode cX6_words 98 = .ok (.getfield 97, 3) := by decide +kernel
theorem dX6_words_101 : decode cX6_words 101 = .ok (.ifCond .ne 39, 3) := by decide +kernel
theorem dX6_words_104 : decode cX6_words 104 = .ok (.aload_n 0, 1) := by decide +kernel
theorem dX6_words_105 : decode cX6_words 105 = .ok (.getfield 7, 3) := by decide +kernel
theorem dX6_words_108 : decode cX6_words 108 = .ok (.aload_n 0, 1) := by decide +kernel
theorem dX6_words_109 : decode cX6_words 109 = .ok (.getfield 101, 3) := by decide +kernel
theorem dX6_words_112 : decode cX6_words 112 = .ok (.iload_n 1, 1) := by decide +kernel
theorem dX6_words_113 : decode cX6_words 113 = .ok (.bipush 8, 2) := by decide +kernel
theorem dX6_words_115 : decode cX6_words 115 = .ok (.iload 4, 2) := by decide +kernel
theorem dX6_words_117 : decode cX6_words 117 = .ok (.imul, 1) := by decide +kernel
theorem dX6_words_118 : decode cX6_words 118 = .ok (.ishr, 1) := by decide +kernel
theorem dX6_words_119 : decode cX6_words 119 = .ok (.sipush 255, 3) := by decide +kernel
theorem dX6_words_122 : decode cX6_words 122 = .ok (.iand, 1) := by decide +kernel
theorem dX6_words_123 : decode cX6_words 123 = .ok (.iastore, 1) := by decide +kernel
theorem dX6_words_124 : decode cX6_words 124 = .ok (.aload_n 0, 1) := by decide +kernel
theorem dX6_words_125 : decode cX6_words 125 = .ok (.dup, 1) := by decide +kernel
theorem dX6_words_126 : decode cX6_words 126 = .ok (.getfield 101, 3) := by decide +kernel
theorem dX6_words_129 : decode cX6_words 129 = .ok (.iconst 1, 1) := by decide +kernel
theorem dX6_words_130 : decode cX6_words 130 = .ok (.iadd, 1) := by decide +kernel
theorem dX6_words_131 : decode cX6_words 131 = .ok (.putfield 101, 3) := by decide +kernel
theorem dX6_words_134 : decode cX6_words 134 = .ok (.iinc 4 (-1), 3) := by decide +kernel
theorem dX6_words_137 : decode cX6_words 137 = .ok (.goto (-45), 3) := by decide +kernel
theorem dX6_words_140 : decode cX6_words 140 = .ok (.aload_n 0, 1) := by decide +kernel
theorem dX6_words_141 : decode cX6_words 141 = .ok (.getfield 101, 3) := by decide +kernel
theorem dX6_words_144 : decode cX6_words 144 = .ok (.ireturn, 1) := by decide +kernel
theorem dX6_token_0 : decode cX6_token 0 = .ok (.aload_n 0, 1) := by decide +kernel
theorem dX6_token_1 : decode cX6_token 1 = .ok (.getfield 104, 3) := by decide +kernel
theorem dX6_token_4 : decode cX6_token 4 = .ok (.aload_n 0, 1) := by decide +kernel
theorem dX6_token_5 : decode cX6_token 5 = .ok (.getfield 101, 3) := by decide +kernel
theorem dX6_token_8 : decode cX6_token 8 = .ok (.if_icmp .ge 15, 3) := by decide +kernel
theorem dX6_token_11 : decode cX6_token 11 = .ok (.aload_n 0, 1) := by decide +kernel
theorem dX6_token_12 : decode cX6_token 12 = .ok (.getfield 7, 3) := by decide +kernel
theorem dX6_token_15 : decode cX6_token 15 = .ok (.aload_n 0, 1) := by decide +kernel
theorem dX6_token_16 : decode cX6_token 16 = .ok (.getfield 104, 3) := by decide +kernel
theorem dX6_token_19 : decode cX6_token 19 = .ok (.iaload, 1) := by decide +kernel
theorem dX6_token_20 : decode cX6_token 20 = .ok (.goto 4, 3) := by decide +kernel
theorem dX6_token_23 : decode cX6_token 23 = .ok (.iconst (-1), 1) := by decide +kernel
theorem dX6_token_24 : decode cX6_token 24 = .ok (.ireturn, 1) := by decide +kernel
theorem dX6_wrong_0 : decode cX6_wrong 0 = .ok (.aload_n 0, 1) := by decide +kernel
theorem dX6_wrong_1 : decode cX6_wrong 1 = .ok (.getfield 107, 3) := by decide +kernel
theorem dX6_wrong_4 : decode cX6_wrong 4 = .ok (.ifCond .ne 13, 3) := by decide +kernel
theorem dX6_wrong_7 : decode cX6_wrong 7 = .ok (.aload_n 0, 1) := by decide +kernel
theorem dX6_wrong_8 : decode cX6_wrong 8 = .ok (.iload_n 1, 1) := by decide +kernel
theorem dX6_wrong_9 : decode cX6_wrong 9 = .ok (.putfield 107, 3) := by decide +kernel
theorem dX6_wrong_12 : decode cX6_wrong 12 = .ok (.aload_n 0, 1) := by decide +kernel
theorem dX6_wrong_13 : decode cX6_wrong 13 = .ok (.iload_n 2, 1) := by decide +kernel
theorem dX6_wrong_14 : decode cX6_wrong 14 = .ok (.putfield 110, 3) := by decide +kernel
theorem dX6_wrong_17 : decode cX6_wrong 17 = .ok (.return_, 1) := by decide +kernel
theorem dX6_must_0 : decode cX6_must 0 = .ok (.aload_n 0, 1) := by decide +kernel
theorem dX6_must_1 : decode cX6_must 1 = .ok (.invokevirtual 113, 3) := by decide +kernel
theorem dX6_must_4 : decode cX6_must 4 = .ok (.iload_n 1, 1) := by decide +kernel
theorem dX6_must_5 : decode cX6_must 5 = .ok (.if_icmp .eq 14, 3) := by decide +kernel
theorem dX6_must_8 : decode cX6_must 8 = .ok (.aload_n 0, 1) := by decide +kernel
theorem dX6_must_9 : decode cX6_must 9 = .ok (.iconst 1, 1) := by decide +kernel
theorem dX6_must_10 : decode cX6_must 10 = .ok (.aload_n 0, 1) := by decide +kernel
theorem dX6_must_11 : decode cX6_must 11 = .ok (.getfield 104, 3) := by decide +kernel
theorem dX6_must_14 : decode cX6_must 14 = .ok (.invokevirtual 117, 3) := by decide +kernel
theorem dX6_must_17 : decode cX6_must 17 = .ok (.iconst 0, 1) := by decide +kernel
theorem dX6_must_18 : decode cX6_must 18 = .ok (.ireturn, 1) := by decide +kernel
theorem dX6_must_19 : decode cX6_must 19 = .ok (.aload_n 0, 1) := by decide +kernel
theorem dX6_must_20 : decode cX6_must 20 = .ok (.dup, 1) := by decide +kernel
theorem dX6_must_21 : decode cX6_must 21 = .ok (.getfield 104, 3) := by decide +kernel
theorem dX6_must_24 : decode cX6_must 24 = .ok (.iconst 1, 1) := by decide +kernel
theorem dX6_must_25 : decode cX6_must 25 = .ok (.iadd, 1) := by decide +kernel
theorem dX6_must_26 : decode cX6_must 26 = .ok (.putfield 104, 3) := by decide +kernel
theorem dX6_must_29 : decode cX6_must 29 = .ok (.iconst 1, 1) := by decide +kernel
theorem dX6_must_30 : decode cX6_must 30 = .ok (.ireturn, 1) := by decide +kernel
theorem dX6_in_0 : decode cX6_in 0 = .ok (.iload_n 0, 1) := by decide +kernel
theorem dX6_in_1 : decode cX6_in 1 = .ok (.iload_n 1, 1) := by decide +kernel
theorem dX6_in_2 : decode cX6_in 2 = .ok (.if_icmp .lt 12, 3) := by decide +kernel
theorem dX6_in_5 : decode cX6_in 5 = .ok (.iload_n 0, 1) := by decide +kernel
theorem dX6_in_6 : decode cX6_in 6 = .ok (.iload_n 2, 1) := by decide +kernel
theorem dX6_in_7 : decode cX6_in 7 = .ok (.if_icmp .gt 7, 3) := by decide +kernel
theorem dX6_in_10 : decode cX6_in 10 = .ok (.iconst 1, 1) := by decide +kernel
theorem dX6_in_11 : decode cX6_in 11 = .ok (.goto 4, 3) := by decide +kernel
theorem dX6_in_14 : decode cX6_in 14 = .ok (.iconst 0, 1) := by decide +kernel
theorem dX6_in_15 : decode cX6_in 15 = .ok (.ireturn, 1) := by decide +kernel
theorem dX6_emit_0 : decode cX6_emit 0 = .ok (.aload_n 0, 1) := by decide +kernel
theorem dX6_emit_1 : decode cX6_emit 1 = .ok (.getfield 13, 3) := by decide +kernel
theorem dX6_emit_4 : decode cX6_emit 4 = .ok (.aload_n 0, 1) := by decide +kernel
theorem dX6_emit_5 : decode cX6_emit 5 = .ok (.getfield 121, 3) := by decide +kernel
theorem dX6_emit_8 : decode cX6_emit 8 = .ok (.iload_n 1, 1) := by decide +kernel
theorem dX6_emit_9 : decode cX6_emit 9 = .ok (.iastore, 1) := by decide +kernel
theorem dX6_emit_10 : decode cX6_emit 10 = .ok (.aload_n 0, 1) := by decide +kernel
theorem dX6_emit_11 : decode cX6_emit 11 = .ok (.getfield 16, 3) := by decide +kernel
theorem dX6_emit_14 : decode cX6_emit 14 = .ok (.aload_n 0, 1) := by decide +kernel
theorem dX6_emit_15 : decode cX6_emit 15 = .ok (.getfield 121, 3) := by decide +kernel
theorem dX6_emit_18 : decode cX6_emit 18 = .ok (.iload_n 2, 1) := by decide +kernel
theorem dX6_emit_19 : decode cX6_emit 19 = .ok (.iastore, 1) := by decide +kernel
theorem dX6_emit_20 : decode cX6_emit 20 = .ok (.aload_n 0, 1) := by decide +kernel
theorem dX6_emit_21 : decode cX6_emit 21 = .ok (.dup, 1) := by decide +kernel
theorem dX6_emit_22 : decode cX6_emit 22 = .ok (.getfield 121, 3) := by decide +kernel
theorem dX6_emit_25 : decode cX6_emit 25 = .ok (.iconst 1, 1) := by decide +kernel
theorem dX6_emit_26 : decode cX6_emit 26 = .ok (.iadd, 1) := by decide +kernel
theorem dX6_emit_27 : decode cX6_emit 27 = .ok (.putfield 121, 3) := by decide +kernel
theorem dX6_emit_30 : decode cX6_emit 30 = .ok (.aload_n 0, 1) := by decide +kernel
theorem dX6_emit_31 : decode cX6_emit 31 = .ok (.getfield 121, 3) := by decide +kernel
theorem dX6_emit_34 : decode cX6_emit 34 = .ok (.iconst 1, 1) := by decide +kernel
theorem dX6_emit_35 : decode cX6_emit 35 = .ok (.isub, 1) := by decide +kernel
theorem dX6_emit_36 : decode cX6_emit 36 = .ok (.ireturn, 1) := by decide +kernel
theorem dX6_function_0 : decode cX6_function 0 = .ok (.aload_n 0, 1) := by decide +kernel
theorem dX6_function_1 : decode cX6_function 1 = .ok (.invokevirtual 113, 3) := by decide +kernel
theorem dX6_function_4 : decode cX6_function 4 = .ok (.iconst (-1), 1) := by decide +kernel
theorem dX6_function_5 : decode cX6_function 5 = .ok (.if_icmp .ne 9, 3) := by decide +kernel
theorem dX6_function_8 : decode cX6_function 8 = .ok (.aload_n 0, 1) := by decide +kernel
theorem dX6_function_9 : decode cX6_function 9 = .ok (.iconst 1, 1) := by decide +kernel
theorem dX6_function_10 : decode cX6_function 10 = .ok (.putfield 124, 3) := by decide +kernel
theorem dX6_function_13 : decode cX6_function 13 = .ok (.return_, 1) := by decide +kernel
theorem dX6_function_14 : decode cX6_function 14 = .ok (.aload_n 0, 1) := by decide +kernel
theorem dX6_function_15 : decode cX6_function 15 = .ok (.bipush 23, 2) := by decide +kernel
theorem dX6_function_17 : decode cX6_function 17 = .ok (.invokevirtual 128, 3) := by decide +kernel
theorem dX6_function_20 : decode cX6_function 20 = .ok (.ifCond .ne 4, 3) := by decide +kernel
theorem dX6_function_23 : decode cX6_function 23 = .ok (.return_, 1) := by decide +kernel
theorem dX6_function_24 : decode cX6_function 24 = .ok (.aload_n 0, 1) := by decide +kernel
theorem dX6_function_25 : decode cX6_function 25 = .ok (.invokevirtual 113, 3) := by decide +kernel
theorem dX6_function_28 : decode cX6_function 28 = .ok (.bipush 52, 2) := by decide +kernel
theorem dX6_function_30 : decode cX6_function 30 = .ok (.isub, 1) := by decide +kernel
theorem dX6_function_31 : decode cX6_function 31 = .ok (.istore_n 1, 1) := by decide +kernel
theorem dX6_function_32 : decode cX6_function 32 = .ok (.iload_n 1, 1) := by decide +kernel
theorem dX6_function_33 : decode cX6_function 33 = .ok (.iconst 0, 1) := by decide +kernel
theorem dX6_function_34 : decode cX6_function 34 = .ok (.iconst 5, 1) := by decide +kernel
theorem dX6_function_35 : decode cX6_function 35 = .ok (.invokestatic 132, 3) := by decide +kernel
theorem dX6_function_38 : decode cX6_function 38 = .ok (.ifCond .ne 13, 3) := by decide +kernel
theorem dX6_function_41 : decode cX6_function 41 = .ok (.aload_n 0, 1) := by decide +kernel
theorem dX6_function_42 : decode cX6_function 42 = .ok (.iconst 1, 1) := by decide +kernel
theorem dX6_function_43 : decode cX6_function 43 = .ok (.aload_n 0, 1) := by decide +kernel
theorem dX6_function_44 : decode cX6_function 44 = .ok (.getfield 104, 3) := by decide +kernel
theorem dX6_function_47 : decode cX6_function 47 = .ok (.invokevirtual 117, 3) := by decide +kernel
theorem dX6_function_50 : decode cX6_function 50 = .ok (.return_, 1) := by decide +kernel
theorem dX6_function_51 : decode cX6_function 51 = .ok (.aload_n 0, 1) := by decide +kernel
theorem dX6_function_52 : decode cX6_function 52 = .ok (.getfield 25, 3) := by decide +kernel
theorem dX6_function_55 : decode cX6_function 55 = .ok (.iload_n 1, 1) := by decide +kernel
theorem dX6_function_56 : decode cX6_function 56 = .ok (.iaload, 1) := by decide +kernel
theorem dX6_function_57 : decode cX6_function 57 = .ok (.ifCond .lt 13, 3) := by decide +kernel
theorem dX6_function_60 : decode cX6_function 60 = .ok (.aload_n 0, 1) := by decide +kernel
theorem dX6_function_61 : decode cX6_function 61 = .ok (.iconst 2, 1) := by decide +kernel
theorem dX6_function_62 : decode cX6_function 62 = .ok (.aload_n 0, 1) := by decide +kernel
theorem dX6_function_63 : decode cX6_function 63 = .ok (.getfield 104, 3) := by decide +kernel
theorem dX6_function_66 : decode cX6_function 66 = .ok (.invokevirtual 117, 3) := by decide +kernel
theorem dX6_function_69 : decode cX6_function 69 = .ok (.return_, 1) := by decide +kernel
theorem dX6_function_70 : decode cX6_function 70 = .ok (.aload_n 0, 1) := by decide +kernel
theorem dX6_function_71 : decode cX6_function 71 = .ok (.dup, 1) := by decide +kernel
theorem dX6_function_72 : decode cX6_function 72 = .ok (.getfield 104, 3) := by decide +kernel
theorem dX6_function_75 : decode cX6_function 75 = .ok (.iconst 1, 1) := by decide +kernel
theorem dX6_function_76 : decode cX6_function 76 = .ok (.iadd, 1) := by decide +kernel
theorem dX6_function_77 : decode cX6_function 77 = .ok (.putfield 104, 3) := by decide +kernel
theorem dX6_function_80 : decode cX6_function 80 = .ok (.aload_n 0, 1) := by decide +kernel
theorem dX6_function_81 : decode cX6_function 81 = .ok (.invokevirtual 113, 3) := by decide +kernel
theorem dX6_function_84 : decode cX6_function 84 = .ok (.bipush 64, 2) := by decide +kernel
theorem dX6_function_86 : decode cX6_function 86 = .ok (.bipush 67, 2) := by decide +kernel
theorem dX6_function_88 : decode cX6_function 88 = .ok (.invokestatic 132, 3) := by decide +kernel
theorem dX6_function_91 : decode cX6_function 91 = .ok (.ifCond .ne 13, 3) := by decide +kernel
theorem dX6_function_94 : decode cX6_function 94 = .ok (.aload_n 0, 1) := by decide +kernel
theorem dX6_function_95 : decode cX6_function 95 = .ok (.iconst 1, 1) := by decide +kernel
theorem dX6_function_96 : decode cX6_function 96 = .ok (.aload_n 0, 1) := by decide +kernel
theorem dX6_function_97 : decode cX6_function 97 = .ok (.getfield 104, 3) := by decide +kernel
theorem dX6_function_100 : decode cX6_function 100 = .ok (.invokevirtual 117, 3) := by decide +kernel
theorem dX6_function_103 : decode cX6_function 103 = .ok (.return_, 1) := by decide +kernel
theorem dX6_function_104 : decode cX6_function 104 = .ok (.aload_n 0, 1) := by decide +kernel
theorem dX6_function_105 : decode cX6_function 105 = .ok (.getfield 25, 3) := by decide +kernel
theorem dX6_function_108 : decode cX6_function 108 = .ok (.iload_n 1, 1) := by decide +kernel
theorem dX6_function_109 : decode cX6_function 109 = .ok (.aload_n 0, 1) := by decide +kernel
theorem dX6_function_110 : decode cX6_function 110 = .ok (.getfield 121, 3) := by decide +kernel
theorem dX6_function_113 : decode cX6_function 113 = .ok (.iastore, 1) := by decide +kernel
theorem dX6_function_114 : decode cX6_function 114 = .ok (.aload_n 0, 1) := by decide +kernel
theorem dX6_function_115 : decode cX6_function 115 = .ok (.getfield 28, 3) := by decide +kernel
theorem dX6_function_118 : decode cX6_function 118 = .ok (.iload_n 1, 1) := by decide +kernel
theorem dX6_function_119 : decode cX6_function 119 = .ok (.aload_n 0, 1) := by decide +kernel
theorem dX6_function_120 : decode cX6_function 120 = .ok (.invokevirtual 113, 3) := by decide +kernel
theorem dX6_function_123 : decode cX6_function 123 = .ok (.bipush 64, 2) := by decide +kernel
theorem dX6_function_125 : decode cX6_function 125 = .ok (.isub, 1) := by decide +kernel
theorem dX6_function_126 : decode cX6_function 126 = .ok (.iastore, 1) := by decide +kernel
theorem dX6_function_127 : decode cX6_function 127 = .ok (.aload_n 0, 1) := by decide +kernel
theorem dX6_function_128 : decode cX6_function 128 = .ok (.dup, 1) := by decide +kernel
theorem dX6_function_129 : decode cX6_function 129 = .ok (.getfield 104, 3) := by decide +kernel
theorem dX6_function_132 : decode cX6_function 132 = .ok (.iconst 1, 1) := by decide +kernel
theorem dX6_function_133 : decode cX6_function 133 = .ok (.iadd, 1) := by decide +kernel
theorem dX6_function_134 : decode cX6_function 134 = .ok (.putfield 104, 3) := by decide +kernel
theorem dX6_function_137 : decode cX6_function 137 = .ok (.aload_n 0, 1) := by decide +kernel
theorem dX6_function_138 : decode cX6_function 138 = .ok (.iconst 0, 1) := by decide +kernel
theorem dX6_function_139 : decode cX6_function 139 = .ok (.iconst 0, 1) := by decide +kernel
theorem dX6_function_140 : decode cX6_function 140 = .ok (.iconst 0, 1) := by decide +kernel
theorem dX6_function_141 : decode cX6_function 141 = .ok (.invokevirtual 136, 3) := by decide +kernel
theorem dX6_function_144 : decode cX6_function 144 = .ok (.return_, 1) := by decide +kernel
theorem dX6_begins_0 : decode cX6_begins 0 = .ok (.aload_n 0, 1) := by decide +kernel
theorem dX6_begins_1 : decode cX6_begins 1 = .ok (.getfield 140, 3) := by decide +kernel
theorem dX6_begins_4 : decode cX6_begins 4 = .ok (.iconst 4, 1) := by decide +kernel
theorem dX6_begins_5 : decode cX6_begins 5 = .ok (.if_icmp .ne 13, 3) := by decide +kernel
theorem dX6_begins_8 : decode cX6_begins 8 = .ok (.aload_n 0, 1) := by decide +kernel
theorem dX6_begins_9 : decode cX6_begins 9 = .ok (.iconst 3, 1) := by decide +kernel
theorem dX6_begins_10 : decode cX6_begins 10 = .ok (.aload_n 0, 1) := by decide +kernel
theorem dX6_begins_11 : decode cX6_begins 11 = .ok (.getfield 104, 3) := by decide +kernel
theorem dX6_begins_14 : decode cX6_begins 14 = .ok (.invokevirtual 117, 3) := by decide +kernel
theorem dX6_begins_17 : decode cX6_begins 17 = .ok (.return_, 1) := by decide +kernel
theorem dX6_begins_18 : decode cX6_begins 18 = .ok (.aload_n 0, 1) := by decide +kernel
theorem dX6_begins_19 : decode cX6_begins 19 = .ok (.getfield 46, 3) := by decide +kernel
theorem dX6_begins_22 : decode cX6_begins 22 = .ok (.aload_n 0, 1) := by decide +kernel
theorem dX6_begins_23 : decode cX6_begins 23 = .ok (.getfield 140, 3) := by decide +kernel
theorem dX6_begins_26 : decode cX6_begins 26 = .ok (.iload_n 1, 1) := by decide +kernel
theorem dX6_begins_27 : decode cX6_begins 27 = .ok (.iastore, 1) := by decide +kernel
theorem dX6_begins_28 : decode cX6_begins 28 = .ok (.aload_n 0, 1) := by decide +kernel
theorem dX6_begins_29 : decode cX6_begins 29 = .ok (.getfield 49, 3) := by decide +kernel
theorem dX6_begins_32 : decode cX6_begins 32 = .ok (.aload_n 0, 1) := by decide +kernel
theorem dX6_begins_33 : decode cX6_begins 33 = .ok (.getfield 140, 3) := by decide +kernel
theorem dX6_begins_36 : decode cX6_begins 36 = .ok (.iload_n 2, 1) := by decide +kernel
theorem dX6_begins_37 : decode cX6_begins 37 = .ok (.iastore, 1) := by decide +kernel
theorem dX6_begins_38 : decode cX6_begins 38 = .ok (.aload_n 0, 1) := by decide +kernel
theorem dX6_begins_39 : decode cX6_begins 39 = .ok (.getfield 52, 3) := by decide +kernel
theorem dX6_begins_42 : decode cX6_begins 42 = .ok (.aload_n 0, 1) := by decide +kernel
theorem dX6_begins_43 : decode cX6_begins 43 = .ok (.getfield 140, 3) := by decide +kernel
theorem dX6_begins_46 : decode cX6_begins 46 = .ok (.iload_n 3, 1) := by decide +kernel
theorem dX6_begins_47 : decode cX6_begins 47 = .ok (.iastore, 1) := by decide +kernel
theorem dX6_begins_48 : decode cX6_begins 48 = .ok (.aload_n 0, 1) := by decide +kernel
theorem dX6_begins_49 : decode cX6_begins 49 = .ok (.dup, 1) := by decide +kernel
theorem dX6_begins_50 : decode cX6_begins 50 = .ok (.getfield 140, 3) := by decide +kernel
theorem dX6_begins_53 : decode cX6_begins 53 = .ok (.iconst 1, 1) := by decide +kernel
theorem dX6_begins_54 : decode cX6_begins 54 = .ok (.iadd, 1) := by decide +kernel
theorem dX6_begins_55 : decode cX6_begins 55 = .ok (.putfield 140, 3) := by decide +kernel
theorem dX6_begins_58 : decode cX6_begins 58 = .ok (.aload_n 0, 1) := by decide +kernel
theorem dX6_begins_59 : decode cX6_begins 59 = .ok (.iconst 1, 1) := by decide +kernel
theorem dX6_begins_60 : decode cX6_begins 60 = .ok (.putfield 143, 3) := by decide +kernel
theorem dX6_begins_63 : decode cX6_begins 63 = .ok (.return_, 1) := by decide +kernel
theorem dX6_worth_0 : decode cX6_worth 0 = .ok (.aload_n 0, 1) := by decide +kernel
theorem dX6_worth_1 : decode cX6_worth 1 = .ok (.iconst 0, 1) := by decide +kernel
theorem dX6_worth_2 : decode cX6_worth 2 = .ok (.putfield 146, 3) := by decide +kernel
theorem dX6_worth_5 : decode cX6_worth 5 = .ok (.aload_n 0, 1) := by decide +kernel
theorem dX6_worth_6 : decode cX6_worth 6 = .ok (.iconst 0, 1) := by decide +kernel
theorem dX6_worth_7 : decode cX6_worth 7 = .ok (.putfield 149, 3) := by decide +kernel
theorem dX6_worth_10 : decode cX6_worth 10 = .ok (.aload_n 0, 1) := by decide +kernel
theorem dX6_worth_11 : decode cX6_worth 11 = .ok (.iload_n 1, 1) := by decide +kernel
theorem dX6_worth_12 : decode cX6_worth 12 = .ok (.iconst 0, 1) := by decide +kernel
theorem dX6_worth_13 : decode cX6_worth 13 = .ok (.invokevirtual 152, 3) := by decide +kernel
theorem dX6_worth_16 : decode cX6_worth 16 = .ok (.return_, 1) := by decide +kernel
theorem dX6_enters_0 : decode cX6_enters 0 = .ok (.aload_n 0, 1) := by decide +kernel
theorem dX6_enters_1 : decode cX6_enters 1 = .ok (.getfield 146, 3) := by decide +kernel
theorem dX6_enters_4 : decode cX6_enters 4 = .ok (.iconst 4, 1) := by decide +kernel
theorem dX6_enters_5 : decode cX6_enters 5 = .ok (.if_icmp .ne 13, 3) := by decide +kernel
theorem dX6_enters_8 : decode cX6_enters 8 = .ok (.aload_n 0, 1) := by decide +kernel
theorem dX6_enters_9 : decode cX6_enters 9 = .ok (.iconst 3, 1) := by decide +kernel
theorem dX6_enters_10 : decode cX6_enters 10 = .ok (.aload_n 0, 1) := by decide +kernel
theorem dX6_enters_11 : decode cX6_enters 11 = .ok (.getfield 104, 3) := by decide +kernel
theorem dX6_enters_14 : decode cX6_enters 14 = .ok (.invokevirtual 117, 3) := by decide +kernel
theorem dX6_enters_17 : decode cX6_enters 17 = .ok (.return_, 1) := by decide +kernel
theorem dX6_enters_18 : decode cX6_enters 18 = .ok (.aload_n 0, 1) := by decide +kernel
theorem dX6_enters_19 : decode cX6_enters 19 = .ok (.getfield 55, 3) := by decide +kernel
theorem dX6_enters_22 : decode cX6_enters 22 = .ok (.aload_n 0, 1) := by decide +kernel
theorem dX6_enters_23 : decode cX6_enters 23 = .ok (.getfield 146, 3) := by decide +kernel
theorem dX6_enters_26 : decode cX6_enters 26 = .ok (.iload_n 1, 1) := by decide +kernel
theorem dX6_enters_27 : decode cX6_enters 27 = .ok (.iastore, 1) := by decide +kernel
theorem dX6_enters_28 : decode cX6_enters 28 = .ok (.aload_n 0, 1) := by decide +kernel
theorem dX6_enters_29 : decode cX6_enters 29 = .ok (.getfield 64, 3) := by decide +kernel
theorem dX6_enters_32 : decode cX6_enters 32 = .ok (.aload_n 0, 1) := by decide +kernel
theorem dX6_enters_33 : decode cX6_enters 33 = .ok (.getfield 146, 3) := by decide +kernel
theorem dX6_enters_36 : decode cX6_enters 36 = .ok (.iload_n 2, 1) := by decide +kernel
theorem dX6_enters_37 : decode cX6_enters 37 = .ok (.iastore, 1) := by decide +kernel
theorem dX6_enters_38 : decode cX6_enters 38 = .ok (.aload_n 0, 1) := by decide +kernel
theorem dX6_enters_39 : decode cX6_enters 39 = .ok (.dup, 1) := by decide +kernel
theorem dX6_enters_40 : decode cX6_enters 40 = .ok (.getfield 146, 3) := by decide +kernel
theorem dX6_enters_43 : decode cX6_enters 43 = .ok (.iconst 1, 1) := by decide +kernel
theorem dX6_enters_44 : decode cX6_enters 44 = .ok (.iadd, 1) := by decide +kernel
theorem dX6_enters_45 : decode cX6_enters 45 = .ok (.putfield 146, 3) := by decide +kernel
theorem dX6_enters_48 : decode cX6_enters 48 = .ok (.aload_n 0, 1) := by decide +kernel
theorem dX6_enters_49 : decode cX6_enters 49 = .ok (.invokevirtual 155, 3) := by decide +kernel
theorem dX6_enters_52 : decode cX6_enters 52 = .ok (.return_, 1) := by decide +kernel
theorem dX6_fresh_0 : decode cX6_fresh 0 = .ok (.aload_n 0, 1) := by decide +kernel
theorem dX6_fresh_1 : decode cX6_fresh 1 = .ok (.getfield 61, 3) := by decide +kernel
theorem dX6_fresh_4 : decode cX6_fresh 4 = .ok (.aload_n 0, 1) := by decide +kernel
theorem dX6_fresh_5 : decode cX6_fresh 5 = .ok (.getfield 146, 3) := by decide +kernel
theorem dX6_fresh_8 : decode cX6_fresh 8 = .ok (.iconst 1, 1) := by decide +kernel
theorem dX6_fresh_9 : decode cX6_fresh 9 = .ok (.isub, 1) := by decide +kernel
theorem dX6_fresh_10 : decode cX6_fresh 10 = .ok (.aload_n 0, 1) := by decide +kernel
theorem dX6_fresh_11 : decode cX6_fresh 11 = .ok (.getfield 149, 3) := by decide +kernel
theorem dX6_fresh_14 : decode cX6_fresh 14 = .ok (.iastore, 1) := by decide +kernel
theorem dX6_fresh_15 : decode cX6_fresh 15 = .ok (.aload_n 0, 1) := by decide +kernel
theorem dX6_fresh_16 : decode cX6_fresh 16 = .ok (.getfield 58, 3) := by decide +kernel
theorem dX6_fresh_19 : decode cX6_fresh 19 = .ok (.aload_n 0, 1) := by decide +kernel
theorem dX6_fresh_20 : decode cX6_fresh 20 = .ok (.getfield 146, 3) := by decide +kernel
theorem dX6_fresh_23 : decode cX6_fresh 23 = .ok (.iconst 1, 1) := by decide +kernel
theorem dX6_fresh_24 : decode cX6_fresh 24 = .ok (.isub, 1) := by decide +kernel
theorem dX6_fresh_25 : decode cX6_fresh 25 = .ok (.iconst (-1), 1) := by decide +kernel
theorem dX6_fresh_26 : decode cX6_fresh 26 = .ok (.iastore, 1) := by decide +kernel
theorem dX6_fresh_27 : decode cX6_fresh 27 = .ok (.aload_n 0, 1) := by decide +kernel
theorem dX6_fresh_28 : decode cX6_fresh 28 = .ok (.iconst 3, 1) := by decide +kernel
theorem dX6_fresh_29 : decode cX6_fresh 29 = .ok (.putfield 143, 3) := by decide +kernel
theorem dX6_fresh_32 : decode cX6_fresh 32 = .ok (.return_, 1) := by decide +kernel
theorem dX6_blockEnds_0 : decode cX6_blockEnds 0 = .ok (.aload_n 0, 1) := by decide +kernel
theorem dX6_blockEnds_1 : decode cX6_blockEnds 1 = .ok (.dup, 1) := by decide +kernel
theorem dX6_blockEnds_2 : decode cX6_blockEnds 2 = .ok (.getfield 104, 3) := by decide +kernel
theorem dX6_blockEnds_5 : decode cX6_blockEnds 5 = .ok (.iconst 1, 1) := by decide +kernel
theorem dX6_blockEnds_6 : decode cX6_blockEnds 6 = .ok (.iadd, 1) := by decide +kernel
theorem dX6_blockEnds_7 : decode cX6_blockEnds 7 = .ok (.putfield 104, 3) := by decide +kernel
theorem dX6_blockEnds_10 : decode cX6_blockEnds 10 = .ok (.aload_n 0, 1) := by decide +kernel
theorem dX6_blockEnds_11 : decode cX6_blockEnds 11 = .ok (.dup, 1) := by decide +kernel
theorem dX6_blockEnds_12 : decode cX6_blockEnds 12 = .ok (.getfield 140, 3) := by decide +kernel
theorem dX6_blockEnds_15 : decode cX6_blockEnds 15 = .ok (.iconst 1, 1) := by decide +kernel
theorem dX6_blockEnds_16 : decode cX6_blockEnds 16 = .ok (.isub, 1) := by decide +kernel
theorem dX6_blockEnds_17 : decode cX6_blockEnds 17 = .ok (.putfield 140, 3) := by decide +kernel
theorem dX6_blockEnds_20 : decode cX6_blockEnds 20 = .ok (.aload_n 0, 1) := by decide +kernel
theorem dX6_blockEnds_21 : decode cX6_blockEnds 21 = .ok (.getfield 46, 3) := by decide +kernel
theorem dX6_blockEnds_24 : decode cX6_blockEnds 24 = .ok (.aload_n 0, 1) := by decide +kernel
theorem dX6_blockEnds_25 : decode cX6_blockEnds 25 = .ok (.getfield 140, 3) := by decide +kernel
theorem dX6_blockEnds_28 : decode cX6_blockEnds 28 = .ok (.iaload, 1) := by decide +kernel
theorem dX6_blockEnds_29 : decode cX6_blockEnds 29 = .ok (.istore_n 1, 1) := by decide +kernel
theorem dX6_blockEnds_30 : decode cX6_blockEnds 30 = .ok (.iload_n 1, 1) := by decide +kernel
theorem dX6_blockEnds_31 : decode cX6_blockEnds 31 = .ok (.ifCond .ne 26, 3) := by decide +kernel
theorem dX6_blockEnds_34 : decode cX6_blockEnds 34 = .ok (.aload_n 0, 1) := by decide +kernel
theorem dX6_blockEnds_35 : decode cX6_blockEnds 35 = .ok (.iconst 0, 1) := by decide +kernel
theorem dX6_blockEnds_36 : decode cX6_blockEnds 36 = .ok (.iconst 0, 1) := by decide +kernel
theorem dX6_blockEnds_37 : decode cX6_blockEnds 37 = .ok (.invokevirtual 158, 3) := by decide +kernel
theorem dX6_blockEnds_40 : decode cX6_blockEnds 40 = .ok (.pop, 1) := by decide +kernel
theorem dX6_blockEnds_41 : decode cX6_blockEnds 41 = .ok (.aload_n 0, 1) := by decide +kernel
theorem dX6_blockEnds_42 : decode cX6_blockEnds 42 = .ok (.bipush 15, 2) := by decide +kernel
theorem dX6_blockEnds_44 : decode cX6_blockEnds 44 = .ok (.iconst 0, 1) := by decide +kernel
theorem dX6_blockEnds_45 : decode cX6_blockEnds 45 = .ok (.invokevirtual 158, 3) := by decide +kernel
theorem dX6_blockEnds_48 : decode cX6_blockEnds 48 = .ok (.pop, 1) := by decide +kernel
theorem dX6_blockEnds_49 : decode cX6_blockEnds 49 = .ok (.aload_n 0, 1) := by decide +kernel
theorem dX6_blockEnds_50 : decode cX6_blockEnds 50 = .ok (.iconst 0, 1) := by decide +kernel
theorem dX6_blockEnds_51 : decode cX6_blockEnds 51 = .ok (.putfield 143, 3) := by decide +kernel
theorem dX6_blockEnds_54 : decode cX6_blockEnds 54 = .ok (.goto 101, 3) := by decide +kernel
theorem dX6_blockEnds_57 : decode cX6_blockEnds 57 = .ok (.iload_n 1, 1) := by decide +kernel
theorem dX6_blockEnds_58 : decode cX6_blockEnds 58 = .ok (.iconst 1, 1) := by decide +kernel
theorem dX6_blockEnds_59 : decode cX6_blockEnds 59 = .ok (.if_icmp .ne 57, 3) := by decide +kernel
theorem dX6_blockEnds_62 : decode cX6_blockEnds 62 = .ok (.aload_n 0, 1) := by decide +kernel
theorem dX6_blockEnds_63 : decode cX6_blockEnds 63 = .ok (.invokevirtual 113, 3) := by decide +kernel
theorem dX6_blockEnds_66 : decode cX6_blockEnds 66 = .ok (.iconst 1, 1) := by decide +kernel
theorem dX6_blockEnds_67 : decode cX6_blockEnds 67 = .ok (.if_icmp .ne 49, 3) := by decide +kernel
theorem dX6_blockEnds_70 : decode cX6_blockEnds 70 = .ok (.aload_n 0, 1) := by decide +kernel
theorem dX6_blockEnds_71 : decode cX6_blockEnds 71 = .ok (.dup, 1) := by decide +kernel
theorem dX6_blockEnds_72 : decode cX6_blockEnds 72 = .ok (.getfield 104, 3) := by decide +kernel
theorem dX6_blockEnds_75 : decode cX6_blockEnds 75 = .ok (.iconst 1, 1) := by decide +kernel
theorem dX6_blockEnds_76 : decode cX6_blockEnds 76 = .ok (.iadd, 1) := by decide +kernel
theorem dX6_blockEnds_77 : decode cX6_blockEnds 77 = .ok (.putfield 104, 3) := by decide +kernel
theorem dX6_blockEnds_80 : decode cX6_blockEnds 80 = .ok (.aload_n 0, 1) := by decide +kernel
theorem dX6_blockEnds_81 : decode cX6_blockEnds 81 = .ok (.bipush 14, 2) := by decide +kernel
theorem dX6_blockEnds_83 : decode cX6_blockEnds 83 = .ok (.iconst 0, 1) := by decide +kernel
theorem dX6_blockEnds_84 : decode cX6_blockEnds 84 = .ok (.invokevirtual 158, 3) := by decide +kernel
theorem dX6_blockEnds_87 : decode cX6_blockEnds 87 = .ok (.istore_n 2, 1) := by decide +kernel
theorem dX6_blockEnds_88 : decode cX6_blockEnds 88 = .ok (.aload_n 0, 1) := by decide +kernel
theorem dX6_blockEnds_89 : decode cX6_blockEnds 89 = .ok (.getfield 16, 3) := by decide +kernel
theorem dX6_blockEnds_92 : decode cX6_blockEnds 92 = .ok (.aload_n 0, 1) := by decide +kernel
theorem dX6_blockEnds_93 : decode cX6_blockEnds 93 = .ok (.getfield 49, 3) := by decide +kernel
theorem dX6_blockEnds_96 : decode cX6_blockEnds 96 = .ok (.aload_n 0, 1) := by decide +kernel
theorem dX6_blockEnds_97 : decode cX6_blockEnds 97 = .ok (.getfield 140, 3) := by decide +kernel
theorem dX6_blockEnds_100 : decode cX6_blockEnds 100 = .ok (.iaload, 1) := by decide +kernel
theorem dX6_blockEnds_101 : decode cX6_blockEnds 101 = .ok (.aload_n 0, 1) := by decide +kernel
theorem dX6_blockEnds_102 : decode cX6_blockEnds 102 = .ok (.getfield 121, 3) := by decide +kernel
theorem dX6_blockEnds_105 : decode cX6_blockEnds 105 = .ok (.iastore, 1) := by decide +kernel
theorem dX6_blockEnds_106 : decode cX6_blockEnds 106 = .ok (.aload_n 0, 1) := by decide +kernel
theorem dX6_blockEnds_107 : decode cX6_blockEnds 107 = .ok (.iconst 2, 1) := by decide +kernel
theorem dX6_blockEnds_108 : decode cX6_blockEnds 108 = .ok (.iload_n 2, 1) := by decide +kernel
theorem dX6_blockEnds_109 : decode cX6_blockEnds 109 = .ok (.iconst 0, 1) := by decide +kernel
theorem dX6_blockEnds_110 : decode cX6_blockEnds 110 = .ok (.invokevirtual 136, 3) := by decide +kernel
theorem dX6_blockEnds_113 : decode cX6_blockEnds 113 = .ok (.goto 42, 3) := by decide +kernel
theorem dX6_blockEnds_116 : decode cX6_blockEnds 116 = .ok (.iload_n 1, 1) := by decide +kernel
theorem dX6_blockEnds_117 : decode cX6_blockEnds 117 = .ok (.iconst 3, 1) := by decide +kernel
theorem dX6_blockEnds_118 : decode cX6_blockEnds 118 = .ok (.if_icmp .ne 19, 3) := by decide +kernel
theorem dX6_blockEnds_121 : decode cX6_blockEnds 121 = .ok (.aload_n 0, 1) := by decide +kernel
theorem dX6_blockEnds_122 : decode cX6_blockEnds 122 = .ok (.bipush 14, 2) := by decide +kernel
theorem dX6_blockEnds_124 : decode cX6_blockEnds 124 = .ok (.aload_n 0, 1) := by decide +kernel
theorem dX6_blockEnds_125 : decode cX6_blockEnds 125 = .ok (.getfield 52, 3) := by decide +kernel
theorem dX6_blockEnds_128 : decode cX6_blockEnds 128 = .ok (.aload_n 0, 1) := by decide +kernel
theorem dX6_blockEnds_129 : decode cX6_blockEnds 129 = .ok (.getfield 140, 3) := by decide +kernel
theorem dX6_blockEnds_132 : decode cX6_blockEnds 132 = .ok (.iaload, 1) := by decide +kernel
theorem dX6_blockEnds_133 : decode cX6_blockEnds 133 = .ok (.invokevirtual 158, 3) := by decide +kernel
theorem dX6_blockEnds_136 : decode cX6_blockEnds 136 = .ok (.pop, 1) := by decide +kernel
theorem dX6_blockEnds_137 : decode cX6_blockEnds 137 = .ok (.aload_n 0, 1) := by decide +kernel
theorem dX6_blockEnds_138 : decode cX6_blockEnds 138 = .ok (.getfield 16, 3) := by decide +kernel
theorem dX6_blockEnds_141 : decode cX6_blockEnds 141 = .ok (.aload_n 0, 1) := by decide +kernel
theorem dX6_blockEnds_142 : decode cX6_blockEnds 142 = .ok (.getfield 49, 3) := by decide +kernel
theorem dX6_blockEnds_145 : decode cX6_blockEnds 145 = .ok (.aload_n 0, 1) := by decide +kernel
theorem dX6_blockEnds_146 : decode cX6_blockEnds 146 = .ok (.getfield 140, 3) := by decide +kernel
theorem dX6_blockEnds_149 : decode cX6_blockEnds 149 = .ok (.iaload, 1) := by decide +kernel
theorem dX6_blockEnds_150 : decode cX6_blockEnds 150 = .ok (.aload_n 0, 1) := by decide +kernel
theorem dX6_blockEnds_151 : decode cX6_blockEnds 151 = .ok (.getfield 121, 3) := by decide +kernel
theorem dX6_blockEnds_154 : decode cX6_blockEnds 154 = .ok (.iastore, 1) := by decide +kernel
theorem dX6_blockEnds_155 : decode cX6_blockEnds 155 = .ok (.return_, 1) := by decide +kernel
theorem dX6_call_0 : decode cX6_call 0 = .ok (.aload_n 0, 1) := by decide +kernel
theorem dX6_call_1 : decode cX6_call 1 = .ok (.getfield 37, 3) := by decide +kernel
theorem dX6_call_4 : decode cX6_call 4 = .ok (.aload_n 0, 1) := by decide +kernel
theorem dX6_call_5 : decode cX6_call 5 = .ok (.getfield 162, 3) := by decide +kernel
theorem dX6_call_8 : decode cX6_call 8 = .ok (.aload_n 0, 1) := by decide +kernel
theorem dX6_call_9 : decode cX6_call 9 = .ok (.getfield 104, 3) := by decide +kernel
theorem dX6_call_12 : decode cX6_call 12 = .ok (.iastore, 1) := by decide +kernel
theorem dX6_call_13 : decode cX6_call 13 = .ok (.aload_n 0, 1) := by decide +kernel
theorem dX6_call_14 : decode cX6_call 14 = .ok (.getfield 40, 3) := by decide +kernel
theorem dX6_call_17 : decode cX6_call 17 = .ok (.aload_n 0, 1) := by decide +kernel
theorem dX6_call_18 : decode cX6_call 18 = .ok (.getfield 162, 3) := by decide +kernel
theorem dX6_call_21 : decode cX6_call 21 = .ok (.aload_n 0, 1) := by decide +kernel
theorem dX6_call_22 : decode cX6_call 22 = .ok (.invokevirtual 113, 3) := by decide +kernel
theorem dX6_call_25 : decode cX6_call 25 = .ok (.bipush 52, 2) := by decide +kernel
theorem dX6_call_27 : decode cX6_call 27 = .ok (.isub, 1) := by decide +kernel
theorem dX6_call_28 : decode cX6_call 28 = .ok (.iastore, 1) := by decide +kernel
theorem dX6_call_29 : decode cX6_call 29 = .ok (.aload_n 0, 1) := by decide +kernel
theorem dX6_call_30 : decode cX6_call 30 = .ok (.getfield 43, 3) := by decide +kernel
theorem dX6_call_33 : decode cX6_call 33 = .ok (.aload_n 0, 1) := by decide +kernel
theorem dX6_call_34 : decode cX6_call 34 = .ok (.getfield 162, 3) := by decide +kernel
theorem dX6_call_37 : decode cX6_call 37 = .ok (.iconst 0, 1) := by decide +kernel
theorem dX6_call_38 : decode cX6_call 38 = .ok (.iastore, 1) := by decide +kernel
theorem dX6_call_39 : decode cX6_call 39 = .ok (.aload_n 0, 1) := by decide +kernel
theorem dX6_call_40 : decode cX6_call 40 = .ok (.dup, 1) := by decide +kernel
theorem dX6_call_41 : decode cX6_call 41 = .ok (.getfield 162, 3) := by decide +kernel
theorem dX6_call_44 : decode cX6_call 44 = .ok (.iconst 1, 1) := by decide +kernel
theorem dX6_call_45 : decode cX6_call 45 = .ok (.iadd, 1) := by decide +kernel
theorem dX6_call_46 : decode cX6_call 46 = .ok (.putfield 162, 3) := by decide +kernel
theorem dX6_call_49 : decode cX6_call 49 = .ok (.aload_n 0, 1) := by decide +kernel
theorem dX6_call_50 : decode cX6_call 50 = .ok (.dup, 1) := by decide +kernel
theorem dX6_call_51 : decode cX6_call 51 = .ok (.getfield 104, 3) := by decide +kernel
theorem dX6_call_54 : decode cX6_call 54 = .ok (.iconst 1, 1) := by decide +kernel
theorem dX6_call_55 : decode cX6_call 55 = .ok (.iadd, 1) := by decide +kernel
theorem dX6_call_56 : decode cX6_call 56 = .ok (.putfield 104, 3) := by decide +kernel
theorem dX6_call_59 : decode cX6_call 59 = .ok (.aload_n 0, 1) := by decide +kernel
theorem dX6_call_60 : decode cX6_call 60 = .ok (.getfield 162, 3) := by decide +kernel
theorem dX6_call_63 : decode cX6_call 63 = .ok (.iconst 1, 1) := by decide +kernel
theorem dX6_call_64 : decode cX6_call 64 = .ok (.isub, 1) := by decide +kernel
theorem dX6_call_65 : decode cX6_call 65 = .ok (.ireturn, 1) := by decide +kernel
theorem dX6_callEnds_0 : decode cX6_callEnds 0 = .ok (.aload_n 0, 1) := by decide +kernel
theorem dX6_callEnds_1 : decode cX6_callEnds 1 = .ok (.bipush 7, 2) := by decide +kernel
theorem dX6_callEnds_3 : decode cX6_callEnds 3 = .ok (.iload_n 1, 1) := by decide +kernel
theorem dX6_callEnds_4 : decode cX6_callEnds 4 = .ok (.invokevirtual 158, 3) := by decide +kernel
theorem dX6_callEnds_7 : decode cX6_callEnds 7 = .ok (.pop, 1) := by decide +kernel
theorem dX6_callEnds_8 : decode cX6_callEnds 8 = .ok (.return_, 1) := by decide +kernel
theorem dX6_statement_0 : decode cX6_statement 0 = .ok (.aload_n 0, 1) := by decide +kernel
theorem dX6_statement_1 : decode cX6_statement 1 = .ok (.invokevirtual 113, 3) := by decide +kernel
theorem dX6_statement_4 : decode cX6_statement 4 = .ok (.istore_n 1, 1) := by decide +kernel
theorem dX6_statement_5 : decode cX6_statement 5 = .ok (.iload_n 1, 1) := by decide +kernel
theorem dX6_statement_6 : decode cX6_statement 6 = .ok (.bipush 9, 2) := by decide +kernel
theorem dX6_statement_8 : decode cX6_statement 8 = .ok (.if_icmp .ne 8, 3) := by decide +kernel
theorem dX6_statement_11 : decode cX6_statement 11 = .ok (.aload_n 0, 1) := by decide +kernel
theorem dX6_statement_12 : decode cX6_statement 12 = .ok (.invokevirtual 165, 3) := by decide +kernel
theorem dX6_statement_15 : decode cX6_statement 15 = .ok (.return_, 1) := by decide +kernel
theorem dX6_statement_16 : decode cX6_statement 16 = .ok (.aload_n 0, 1) := by decide +kernel
theorem dX6_statement_17 : decode cX6_statement 17 = .ok (.aload_n 0, 1) := by decide +kernel
theorem dX6_statement_18 : decode cX6_statement 18 = .ok (.bipush 8, 2) := by decide +kernel
theorem dX6_statement_20 : decode cX6_statement 20 = .ok (.iconst 0, 1) := by decide +kernel
theorem dX6_statement_21 : decode cX6_statement 21 = .ok (.invokevirtual 158, 3) := by decide +kernel
theorem dX6_statement_24 : decode cX6_statement 24 = .ok (.putfield 168, 3) := by decide +kernel
theorem dX6_statement_27 : decode cX6_statement 27 = .ok (.aload_n 0, 1) := by decide +kernel
theorem dX6_statement_28 : decode cX6_statement 28 = .ok (.iload_n 1, 1) := by decide +kernel
theorem dX6_statement_29 : decode cX6_statement 29 = .ok (.bipush 32, 2) := by decide +kernel
theorem dX6_statement_31 : decode cX6_statement 31 = .ok (.bipush 39, 2) := by decide +kernel
theorem dX6_statement_33 : decode cX6_statement 33 = .ok (.invokestatic 132, 3) := by decide +kernel
theorem dX6_statement_36 : decode cX6_statement 36 = .ok (.ifCond .eq 8, 3) := by decide +kernel
theorem dX6_statement_39 : decode cX6_statement 39 = .ok (.bipush 9, 2) := by decide +kernel
theorem dX6_statement_41 : decode cX6_statement 41 = .ok (.goto 21, 3) := by decide +kernel
theorem dX6_statement_44 : decode cX6_statement 44 = .ok (.iload_n 1, 1) := by decide +kernel
theorem dX6_statement_45 : decode cX6_statement 45 = .ok (.bipush 44, 2) := by decide +kernel
theorem dX6_statement_47 : decode cX6_statement 47 = .ok (.bipush 51, 2) := by decide +kernel
theorem dX6_statement_49 : decode cX6_statement 49 = .ok (.invokestatic 132, 3) := by decide +kernel
theorem dX6_statement_52 : decode cX6_statement 52 = .ok (.ifCond .eq 8, 3) := by decide +kernel
theorem dX6_statement_55 : decode cX6_statement 55 = .ok (.bipush 10, 2) := by decide +kernel
theorem dX6_statement_57 : decode cX6_statement 57 = .ok (.goto 5, 3) := by decide +kernel
theorem dX6_statement_60 : decode cX6_statement 60 = .ok (.bipush 11, 2) := by decide +kernel
theorem dX6_statement_62 : decode cX6_statement 62 = .ok (.putfield 171, 3) := by decide +kernel
theorem dX6_statement_65 : decode cX6_statement 65 = .ok (.iload_n 1, 1) := by decide +kernel
theorem dX6_statement_66 : decode cX6_statement 66 = .ok (.bipush 32, 2) := by decide +kernel
theorem dX6_statement_68 : decode cX6_statement 68 = .ok (.bipush 39, 2) := by decide +kernel
theorem dX6_statement_70 : decode cX6_statement 70 = .ok (.invokestatic 132, 3) := by decide +kernel
theorem dX6_statement_73 : decode cX6_statement 73 = .ok (.ifCond .ne 14, 3) := by decide +kernel
theorem dX6_statement_76 : decode cX6_statement 76 = .ok (.iload_n 1, 1) := by decide +kernel
theorem dX6_statement_77 : decode cX6_statement 77 = .ok (.bipush 44, 2) := by decide +kernel
theorem dX6_statement_79 : decode cX6_statement 79 = .ok (.bipush 51, 2) := by decide +kernel
theorem dX6_statement_81 : decode cX6_statement 81 = .ok (.invokestatic 132, 3) := by decide +kernel
theorem dX6_statement_84 : decode cX6_statement 84 = .ok (.ifCond .eq 54, 3) := by decide +kernel
theorem dX6_statement_87 : decode cX6_statement 87 = .ok (.aload_n 0, 1) := by decide +kernel
theorem dX6_statement_88 : decode cX6_statement 88 = .ok (.aload_n 0, 1) := by decide +kernel
theorem dX6_statement_89 : decode cX6_statement 89 = .ok (.getfield 171, 3) := by decide +kernel
theorem dX6_statement_92 : decode cX6_statement 92 = .ok (.bipush 9, 2) := by decide +kernel
theorem dX6_statement_94 : decode cX6_statement 94 = .ok (.if_icmp .ne 10, 3) := by decide +kernel
theorem dX6_statement_97 : decode cX6_statement 97 = .ok (.iload_n 1, 1) := by decide +kernel
theorem dX6_statement_98 : decode cX6_statement 98 = .ok (.bipush 32, 2) := by decide +kernel
theorem dX6_statement_100 : decode cX6_statement 100 = .ok (.isub, 1) := by decide +kernel
theorem dX6_statement_101 : decode cX6_statement 101 = .ok (.goto 7, 3) := by decide +kernel
theorem dX6_statement_104 : decode cX6_statement 104 = .ok (.iload_n 1, 1) := by decide +kernel
theorem dX6_statement_105 : decode cX6_statement 105 = .ok (.bipush 44, 2) := by decide +kernel
theorem dX6_statement_107 : decode cX6_statement 107 = .ok (.isub, 1) := by decide +kernel
theorem dX6_statement_108 : decode cX6_statement 108 = .ok (.putfield 174, 3) := by decide +kernel
theorem dX6_statement_111 : decode cX6_statement 111 = .ok (.aload_n 0, 1) := by decide +kernel
theorem dX6_statement_112 : decode cX6_statement 112 = .ok (.dup, 1) := by decide +kernel
theorem dX6_statement_113 : decode cX6_statement 113 = .ok (.getfield 104, 3) := by decide +kernel
theorem dX6_statement_116 : decode cX6_statement 116 = .ok (.iconst 1, 1) := by decide +kernel
theorem dX6_statement_117 : decode cX6_statement 117 = .ok (.iadd, 1) := by decide +kernel
theorem dX6_statement_118 : decode cX6_statement 118 = .ok (.putfield 104, 3) := by decide +kernel
theorem dX6_statement_121 : decode cX6_statement 121 = .ok (.aload_n 0, 1) := by decide +kernel
theorem dX6_statement_122 : decode cX6_statement 122 = .ok (.bipush 12, 2) := by decide +kernel
theorem dX6_statement_124 : decode cX6_statement 124 = .ok (.invokevirtual 128, 3) := by decide +kernel
theorem dX6_statement_127 : decode cX6_statement 127 = .ok (.ifCond .eq 241, 3) := by decide +kernel
theorem dX6_statement_130 : decode cX6_statement 130 = .ok (.aload_n 0, 1) := by decide +kernel
theorem dX6_statement_131 : decode cX6_statement 131 = .ok (.iconst 4, 1) := by decide +kernel
theorem dX6_statement_132 : decode cX6_statement 132 = .ok (.invokevirtual 177, 3) := by decide +kernel
theorem dX6_statement_135 : decode cX6_statement 135 = .ok (.goto 233, 3) := by decide +kernel
theorem dX6_statement_138 : decode cX6_statement 138 = .ok (.iload_n 1, 1) := by decide +kernel
theorem dX6_statement_139 : decode cX6_statement 139 = .ok (.bipush 40, 2) := by decide +kernel
theorem dX6_statement_141 : decode cX6_statement 141 = .ok (.bipush 43, 2) := by decide +kernel
theorem dX6_statement_143 : decode cX6_statement 143 = .ok (.invokestatic 132, 3) := by decide +kernel
theorem dX6_statement_146 : decode cX6_statement 146 = .ok (.ifCond .eq 38, 3) := by decide +kernel
theorem dX6_statement_149 : decode cX6_statement 149 = .ok (.aload_n 0, 1) := by decide +kernel
theorem dX6_statement_150 : decode cX6_statement 150 = .ok (.iload_n 1, 1) := by decide +kernel
theorem dX6_statement_151 : decode cX6_statement 151 = .ok (.bipush 40, 2) := by decide +kernel
theorem dX6_statement_153 : decode cX6_statement 153 = .ok (.isub, 1) := by decide +kernel
theorem dX6_statement_154 : decode cX6_statement 154 = .ok (.putfield 174, 3) := by decide +kernel
theorem dX6_statement_157 : decode cX6_statement 157 = .ok (.aload_n 0, 1) := by decide +kernel
theorem dX6_statement_158 : decode cX6_statement 158 = .ok (.dup, 1) := by decide +kernel
theorem dX6_statement_159 : decode cX6_statement 159 = .ok (.getfield 104, 3) := by decide +kernel
theorem dX6_statement_162 : decode cX6_statement 162 = .ok (.iconst 1, 1) := by decide +kernel
theorem dX6_statement_163 : decode cX6_statement 163 = .ok (.iadd, 1) := by decide +kernel
theorem dX6_statement_164 : decode cX6_statement 164 = .ok (.putfield 104, 3) := by decide +kernel
theorem dX6_statement_167 : decode cX6_statement 167 = .ok (.aload_n 0, 1) := by decide +kernel
theorem dX6_statement_168 : decode cX6_statement 168 = .ok (.bipush 21, 2) := by decide +kernel
theorem dX6_statement_170 : decode cX6_statement 170 = .ok (.invokevirtual 128, 3) := by decide +kernel
theorem dX6_statement_173 : decode cX6_statement 173 = .ok (.ifCond .eq 195, 3) := by decide +kernel
theorem dX6_statement_176 : decode cX6_statement 176 = .ok (.aload_n 0, 1) := by decide +kernel
theorem dX6_statement_177 : decode cX6_statement 177 = .ok (.iconst 3, 1) := by decide +kernel
theorem dX6_statement_178 : decode cX6_statement 178 = .ok (.invokevirtual 177, 3) := by decide +kernel
theorem dX6_statement_181 : decode cX6_statement 181 = .ok (.goto 187, 3) := by decide +kernel
theorem dX6_statement_184 : decode cX6_statement 184 = .ok (.iload_n 1, 1) := by decide +kernel
theorem dX6_statement_185 : decode cX6_statement 185 = .ok (.bipush 52, 2) := by decide +kernel
theorem dX6_statement_187 : decode cX6_statement 187 = .ok (.bipush 57, 2) := by decide +kernel
theorem dX6_statement_189 : decode cX6_statement 189 = .ok (.invokestatic 132, 3) := by decide +kernel
theorem dX6_statement_192 : decode cX6_statement 192 = .ok (.ifCond .eq 83, 3) := by decide +kernel
theorem dX6_statement_195 : decode cX6_statement 195 = .ok (.aload_n 0, 1) := by decide +kernel
theorem dX6_statement_196 : decode cX6_statement 196 = .ok (.invokevirtual 181, 3) := by decide +kernel
theorem dX6_statement_199 : decode cX6_statement 199 = .ok (.istore_n 2, 1) := by decide +kernel
theorem dX6_statement_200 : decode cX6_statement 200 = .ok (.aload_n 0, 1) := by decide +kernel
theorem dX6_statement_201 : decode cX6_statement 201 = .ok (.bipush 6, 2) := by decide +kernel
theorem dX6_statement_203 : decode cX6_statement 203 = .ok (.invokevirtual 128, 3) := by decide +kernel
theorem dX6_statement_206 : decode cX6_statement 206 = .ok (.ifCond .ne 4, 3) := by decide +kernel
theorem dX6_statement_209 : decode cX6_statement 209 = .ok (.return_, 1) := by decide +kernel
theorem dX6_statement_210 : decode cX6_statement 210 = .ok (.aload_n 0, 1) := by decide +kernel
theorem dX6_statement_211 : decode cX6_statement 211 = .ok (.invokevirtual 113, 3) := by decide +kernel
theorem dX6_statement_214 : decode cX6_statement 214 = .ok (.bipush 7, 2) := by decide +kernel
theorem dX6_statement_216 : decode cX6_statement 216 = .ok (.if_icmp .ne 36, 3) := by decide +kernel
theorem dX6_statement_219 : decode cX6_statement 219 = .ok (.aload_n 0, 1) := by decide +kernel
theorem dX6_statement_220 : decode cX6_statement 220 = .ok (.dup, 1) := by decide +kernel
theorem dX6_statement_221 : decode cX6_statement 221 = .ok (.getfield 104, 3) := by decide +kernel
theorem dX6_statement_224 : decode cX6_statement 224 = .ok (.iconst 1, 1) := by decide +kernel
theorem dX6_statement_225 : decode cX6_statement 225 = .ok (.iadd, 1) := by decide +kernel
theorem dX6_statement_226 : decode cX6_statement 226 = .ok (.putfield 104, 3) := by decide +kernel
theorem dX6_statement_229 : decode cX6_statement 229 = .ok (.aload_n 0, 1) := by decide +kernel
theorem dX6_statement_230 : decode cX6_statement 230 = .ok (.iload_n 2, 1) := by decide +kernel
theorem dX6_statement_231 : decode cX6_statement 231 = .ok (.invokevirtual 184, 3) := by decide +kernel
theorem dX6_statement_234 : decode cX6_statement 234 = .ok (.aload_n 0, 1) := by decide +kernel
theorem dX6_statement_235 : decode cX6_statement 235 = .ok (.bipush 12, 2) := by decide +kernel
theorem dX6_statement_237 : decode cX6_statement 237 = .ok (.iconst 0, 1) := by decide +kernel
theorem dX6_statement_238 : decode cX6_statement 238 = .ok (.invokevirtual 158, 3) := by decide +kernel
theorem dX6_statement_241 : decode cX6_statement 241 = .ok (.pop, 1) := by decide +kernel
theorem dX6_statement_242 : decode cX6_statement 242 = .ok (.aload_n 0, 1) := by decide +kernel
theorem dX6_statement_243 : decode cX6_statement 243 = .ok (.bipush 10, 2) := by decide +kernel
theorem dX6_statement_245 : decode cX6_statement 245 = .ok (.invokevirtual 128, 3) := by decide +kernel
theorem dX6_statement_248 : decode cX6_statement 248 = .ok (.pop, 1) := by decide +kernel
theorem dX6_statement_249 : decode cX6_statement 249 = .ok (.goto 23, 3) := by decide +kernel
theorem dX6_statement_252 : decode cX6_statement 252 = .ok (.aload_n 0, 1) := by decide +kernel
theorem dX6_statement_253 : decode cX6_statement 253 = .ok (.bipush 9, 2) := by decide +kernel
theorem dX6_statement_255 : decode cX6_statement 255 = .ok (.invokevirtual 177, 3) := by decide +kernel
theorem dX6_statement_258 : decode cX6_statement 258 = .ok (.aload_n 0, 1) := by decide +kernel
theorem dX6_statement_259 : decode cX6_statement 259 = .ok (.getfield 64, 3) := by decide +kernel
theorem dX6_statement_262 : decode cX6_statement 262 = .ok (.iconst 0, 1) := by decide +kernel
theorem dX6_statement_263 : decode cX6_statement 263 = .ok (.iload_n 2, 1) := by decide +kernel
theorem dX6_statement_264 : decode cX6_statement 264 = .ok (.iastore, 1) := by decide +kernel
theorem dX6_statement_265 : decode cX6_statement 265 = .ok (.aload_n 0, 1) := by decide +kernel
theorem dX6_statement_266 : decode cX6_statement 266 = .ok (.getfield 43, 3) := by decide +kernel
theorem dX6_statement_269 : decode cX6_statement 269 = .ok (.iload_n 2, 1) := by decide +kernel
theorem dX6_statement_270 : decode cX6_statement 270 = .ok (.iconst 1, 1) := by decide +kernel
theorem dX6_statement_271 : decode cX6_statement 271 = .ok (.iastore, 1) := by decide +kernel
theorem dX6_statement_272 : decode cX6_statement 272 = .ok (.goto 96, 3) := by decide +kernel
theorem dX6_statement_275 : decode cX6_statement 275 = .ok (.iload_n 1, 1) := by decide +kernel
theorem dX6_statement_276 : decode cX6_statement 276 = .ok (.ifCond .eq 8, 3) := by decide +kernel
theorem dX6_statement_279 : decode cX6_statement 279 = .ok (.iload_n 1, 1) := by decide +kernel
theorem dX6_statement_280 : decode cX6_statement 280 = .ok (.iconst 2, 1) := by decide +kernel
theorem dX6_statement_281 : decode cX6_statement 281 = .ok (.if_icmp .ne 39, 3) := by decide +kernel
theorem dX6_statement_284 : decode cX6_statement 284 = .ok (.aload_n 0, 1) := by decide +kernel
theorem dX6_statement_285 : decode cX6_statement 285 = .ok (.dup, 1) := by decide +kernel
theorem dX6_statement_286 : decode cX6_statement 286 = .ok (.getfield 104, 3) := by decide +kernel
theorem dX6_statement_289 : decode cX6_statement 289 = .ok (.iconst 1, 1) := by decide +kernel
theorem dX6_statement_290 : decode cX6_statement 290 = .ok (.iadd, 1) := by decide +kernel
theorem dX6_statement_291 : decode cX6_statement 291 = .ok (.putfield 104, 3) := by decide +kernel
theorem dX6_statement_294 : decode cX6_statement 294 = .ok (.aload_n 0, 1) := by decide +kernel
theorem dX6_statement_295 : decode cX6_statement 295 = .ok (.bipush 6, 2) := by decide +kernel
theorem dX6_statement_297 : decode cX6_statement 297 = .ok (.invokevirtual 128, 3) := by decide +kernel
theorem dX6_statement_300 : decode cX6_statement 300 = .ok (.ifCond .eq 68, 3) := by decide +kernel
theorem dX6_statement_303 : decode cX6_statement 303 = .ok (.aload_n 0, 1) := by decide +kernel
theorem dX6_statement_304 : decode cX6_statement 304 = .ok (.iload_n 1, 1) := by decide +kernel
theorem dX6_statement_305 : decode cX6_statement 305 = .ok (.ifCond .ne 7, 3) := by decide +kernel
theorem dX6_statement_308 : decode cX6_statement 308 = .ok (.iconst 5, 1) := by decide +kernel
theorem dX6_statement_309 : decode cX6_statement 309 = .ok (.goto 5, 3) := by decide +kernel
theorem dX6_statement_312 : decode cX6_statement 312 = .ok (.bipush 6, 2) := by decide +kernel
theorem dX6_statement_314 : decode cX6_statement 314 = .ok (.invokevirtual 177, 3) := by decide +kernel
theorem dX6_statement_317 : decode cX6_statement 317 = .ok (.goto 51, 3) := by decide +kernel
theorem dX6_statement_320 : decode cX6_statement 320 = .ok (.iload_n 1, 1) := by decide +kernel
theorem dX6_statement_321 : decode cX6_statement 321 = .ok (.iconst 3, 1) := by decide +kernel
theorem dX6_statement_322 : decode cX6_statement 322 = .ok (.if_icmp .eq 8, 3) := by decide +kernel
theorem dX6_statement_325 : decode cX6_statement 325 = .ok (.iload_n 1, 1) := by decide +kernel
theorem dX6_statement_326 : decode cX6_statement 326 = .ok (.iconst 4, 1) := by decide +kernel
theorem dX6_statement_327 : decode cX6_statement 327 = .ok (.if_icmp .ne 32, 3) := by decide +kernel
theorem dX6_statement_330 : decode cX6_statement 330 = .ok (.aload_n 0, 1) := by decide +kernel
theorem dX6_statement_331 : decode cX6_statement 331 = .ok (.dup, 1) := by decide +kernel
theorem dX6_statement_332 : decode cX6_statement 332 = .ok (.getfield 104, 3) := by decide +kernel
theorem dX6_statement_335 : decode cX6_statement 335 = .ok (.iconst 1, 1) := by decide +kernel
theorem dX6_statement_336 : decode cX6_statement 336 = .ok (.iadd, 1) := by decide +kernel
theorem dX6_statement_337 : decode cX6_statement 337 = .ok (.putfield 104, 3) := by decide +kernel
theorem dX6_statement_340 : decode cX6_statement 340 = .ok (.aload_n 0, 1) := by decide +kernel
theorem dX6_statement_341 : decode cX6_statement 341 = .ok (.iload_n 1, 1) := by decide +kernel
theorem dX6_statement_342 : decode cX6_statement 342 = .ok (.iconst 3, 1) := by decide +kernel
theorem dX6_statement_343 : decode cX6_statement 343 = .ok (.if_icmp .ne 8, 3) := by decide +kernel
theorem dX6_statement_346 : decode cX6_statement 346 = .ok (.bipush 7, 2) := by decide +kernel
theorem dX6_statement_348 : decode cX6_statement 348 = .ok (.goto 5, 3) := by decide +kernel
theorem dX6_statement_351 : decode cX6_statement 351 = .ok (.bipush 8, 2) := by decide +kernel
theorem dX6_statement_353 : decode cX6_statement 353 = .ok (.invokevirtual 177, 3) := by decide +kernel
theorem dX6_statement_356 : decode cX6_statement 356 = .ok (.goto 12, 3) := by decide +kernel
theorem dX6_statement_359 : decode cX6_statement 359 = .ok (.aload_n 0, 1) := by decide +kernel
theorem dX6_statement_360 : decode cX6_statement 360 = .ok (.iconst 1, 1) := by decide +kernel
theorem dX6_statement_361 : decode cX6_statement 361 = .ok (.aload_n 0, 1) := by decide +kernel
theorem dX6_statement_362 : decode cX6_statement 362 = .ok (.getfield 104, 3) := by decide +kernel
theorem dX6_statement_365 : decode cX6_statement 365 = .ok (.invokevirtual 117, 3) := by decide +kernel
theorem dX6_statement_368 : decode cX6_statement 368 = .ok (.return_, 1) := by decide +kernel
theorem dX6_piece_0 : decode cX6_piece 0 = .ok (.aload_n 0, 1) := by decide +kernel
theorem dX6_piece_1 : decode cX6_piece 1 = .ok (.invokevirtual 113, 3) := by decide +kernel
theorem dX6_piece_4 : decode cX6_piece 4 = .ok (.istore_n 1, 1) := by decide +kernel
theorem dX6_piece_5 : decode cX6_piece 5 = .ok (.aload_n 0, 1) := by decide +kernel
theorem dX6_piece_6 : decode cX6_piece 6 = .ok (.getfield 146, 3) := by decide +kernel
theorem dX6_piece_9 : decode cX6_piece 9 = .ok (.iconst 1, 1) := by decide +kernel
theorem dX6_piece_10 : decode cX6_piece 10 = .ok (.isub, 1) := by decide +kernel
theorem dX6_piece_11 : decode cX6_piece 11 = .ok (.istore_n 2, 1) := by decide +kernel
theorem dX6_piece_12 : decode cX6_piece 12 = .ok (.aload_n 0, 1) := by decide +kernel
theorem dX6_piece_13 : decode cX6_piece 13 = .ok (.getfield 58, 3) := by decide +kernel
theorem dX6_piece_16 : decode cX6_piece 16 = .ok (.iload_n 2, 1) := by decide +kernel
theorem dX6_piece_17 : decode cX6_piece 17 = .ok (.iaload, 1) := by decide +kernel
theorem dX6_piece_18 : decode cX6_piece 18 = .ok (.iconst (-1), 1) := by decide +kernel
theorem dX6_piece_19 : decode cX6_piece 19 = .ok (.if_icmp .ne 44, 3) := by decide +kernel
theorem dX6_piece_22 : decode cX6_piece 22 = .ok (.iload_n 1, 1) := by decide +kernel
theorem dX6_piece_23 : decode cX6_piece 23 = .ok (.bipush 14, 2) := by decide +kernel
theorem dX6_piece_25 : decode cX6_piece 25 = .ok (.if_icmp .eq 9, 3) := by decide +kernel
theorem dX6_piece_28 : decode cX6_piece 28 = .ok (.iload_n 1, 1) := by decide +kernel
theorem dX6_piece_29 : decode cX6_piece 29 = .ok (.bipush 20, 2) := by decide +kernel
theorem dX6_piece_31 : decode cX6_piece 31 = .ok (.if_icmp .ne 32, 3) := by decide +kernel
theorem dX6_piece_34 : decode cX6_piece 34 = .ok (.aload_n 0, 1) := by decide +kernel
theorem dX6_piece_35 : decode cX6_piece 35 = .ok (.getfield 58, 3) := by decide +kernel
theorem dX6_piece_38 : decode cX6_piece 38 = .ok (.iload_n 2, 1) := by decide +kernel
theorem dX6_piece_39 : decode cX6_piece 39 = .ok (.iload_n 1, 1) := by decide +kernel
theorem dX6_piece_40 : decode cX6_piece 40 = .ok (.bipush 14, 2) := by decide +kernel
theorem dX6_piece_42 : decode cX6_piece 42 = .ok (.if_icmp .ne 7, 3) := by decide +kernel
theorem dX6_piece_45 : decode cX6_piece 45 = .ok (.iconst 5, 1) := by decide +kernel
theorem dX6_piece_46 : decode cX6_piece 46 = .ok (.goto 5, 3) := by decide +kernel
theorem dX6_piece_49 : decode cX6_piece 49 = .ok (.bipush 6, 2) := by decide +kernel
theorem dX6_piece_51 : decode cX6_piece 51 = .ok (.iastore, 1) := by decide +kernel
theorem dX6_piece_52 : decode cX6_piece 52 = .ok (.aload_n 0, 1) := by decide +kernel
theorem dX6_piece_53 : decode cX6_piece 53 = .ok (.dup, 1) := by decide +kernel
theorem dX6_piece_54 : decode cX6_piece 54 = .ok (.getfield 104, 3) := by decide +kernel
theorem dX6_piece_57 : decode cX6_piece 57 = .ok (.iconst 1, 1) := by decide +kernel
theorem dX6_piece_58 : decode cX6_piece 58 = .ok (.iadd, 1) := by decide +kernel
theorem dX6_piece_59 : decode cX6_piece 59 = .ok (.putfield 104, 3) := by decide +kernel
theorem dX6_piece_62 : decode cX6_piece 62 = .ok (.return_, 1) := by decide +kernel
theorem dX6_piece_63 : decode cX6_piece 63 = .ok (.aload_n 0, 1) := by decide +kernel
theorem dX6_piece_64 : decode cX6_piece 64 = .ok (.iconst 4, 1) := by decide +kernel
theorem dX6_piece_65 : decode cX6_piece 65 = .ok (.putfield 143, 3) := by decide +kernel
theorem dX6_piece_68 : decode cX6_piece 68 = .ok (.iload_n 1, 1) := by decide +kernel
theorem dX6_piece_69 : decode cX6_piece 69 = .ok (.bipush 64, 2) := by decide +kernel
theorem dX6_piece_71 : decode cX6_piece 71 = .ok (.sipush 191, 3) := by decide +kernel
theorem dX6_piece_74 : decode cX6_piece 74 = .ok (.invokestatic 132, 3) := by decide +kernel
theorem dX6_piece_77 : decode cX6_piece 77 = .ok (.ifCond .eq 26, 3) := by decide +kernel
theorem dX6_piece_80 : decode cX6_piece 80 = .ok (.aload_n 0, 1) := by decide +kernel
theorem dX6_piece_81 : decode cX6_piece 81 = .ok (.iconst 0, 1) := by decide +kernel
theorem dX6_piece_82 : decode cX6_piece 82 = .ok (.iload_n 1, 1) := by decide +kernel
theorem dX6_piece_83 : decode cX6_piece 83 = .ok (.bipush 64, 2) := by decide +kernel
theorem dX6_piece_85 : decode cX6_piece 85 = .ok (.isub, 1) := by decide +kernel
theorem dX6_piece_86 : decode cX6_piece 86 = .ok (.invokevirtual 158, 3) := by decide +kernel
theorem dX6_piece_89 : decode cX6_piece 89 = .ok (.pop, 1) := by decide +kernel
theorem dX6_piece_90 : decode cX6_piece 90 = .ok (.aload_n 0, 1) := by decide +kernel
theorem dX6_piece_91 : decode cX6_piece 91 = .ok (.dup, 1) := by decide +kernel
theorem dX6_piece_92 : decode cX6_piece 92 = .ok (.getfield 104, 3) := by decide +kernel
theorem dX6_piece_95 : decode cX6_piece 95 = .ok (.iconst 1, 1) := by decide +kernel
theorem dX6_piece_96 : decode cX6_piece 96 = .ok (.iadd, 1) := by decide +kernel
theorem dX6_piece_97 : decode cX6_piece 97 = .ok (.putfield 104, 3) := by decide +kernel
theorem dX6_piece_100 : decode cX6_piece 100 = .ok (.goto 205, 3) := by decide +kernel
theorem dX6_piece_103 : decode cX6_piece 103 = .ok (.iload_n 1, 1) := by decide +kernel
theorem dX6_piece_104 : decode cX6_piece 104 = .ok (.iconst 5, 1) := by decide +kernel
theorem dX6_piece_105 : decode cX6_piece 105 = .ok (.if_icmp .ne 23, 3) := by decide +kernel
theorem dX6_piece_108 : decode cX6_piece 108 = .ok (.aload_n 0, 1) := by decide +kernel
theorem dX6_piece_109 : decode cX6_piece 109 = .ok (.iconst 1, 1) := by decide +kernel
theorem dX6_piece_110 : decode cX6_piece 110 = .ok (.iconst 0, 1) := by decide +kernel
theorem dX6_piece_111 : decode cX6_piece 111 = .ok (.invokevirtual 158, 3) := by decide +kernel
theorem dX6_piece_114 : decode cX6_piece 114 = .ok (.pop, 1) := by decide +kernel
theorem dX6_piece_115 : decode cX6_piece 115 = .ok (.aload_n 0, 1) := by decide +kernel
theorem dX6_piece_116 : decode cX6_piece 116 = .ok (.dup, 1) := by decide +kernel
theorem dX6_piece_117 : decode cX6_piece 117 = .ok (.getfield 104, 3) := by decide +kernel
theorem dX6_piece_120 : decode cX6_piece 120 = .ok (.iconst 1, 1) := by decide +kernel
theorem dX6_piece_121 : decode cX6_piece 121 = .ok (.iadd, 1) := by decide +kernel
theorem dX6_piece_122 : decode cX6_piece 122 = .ok (.putfield 104, 3) := by decide +kernel
theorem dX6_piece_125 : decode cX6_piece 125 = .ok (.goto 180, 3) := by decide +kernel
theorem dX6_piece_128 : decode cX6_piece 128 = .ok (.iload_n 1, 1) := by decide +kernel
theorem dX6_piece_129 : decode cX6_piece 129 = .ok (.bipush 32, 2) := by decide +kernel
theorem dX6_piece_131 : decode cX6_piece 131 = .ok (.bipush 39, 2) := by decide +kernel
theorem dX6_piece_133 : decode cX6_piece 133 = .ok (.invokestatic 132, 3) := by decide +kernel
theorem dX6_piece_136 : decode cX6_piece 136 = .ok (.ifCond .ne 14, 3) := by decide +kernel
theorem dX6_piece_139 : decode cX6_piece 139 = .ok (.iload_n 1, 1) := by decide +kernel
theorem dX6_piece_140 : decode cX6_piece 140 = .ok (.bipush 44, 2) := by decide +kernel
theorem dX6_piece_142 : decode cX6_piece 142 = .ok (.bipush 51, 2) := by decide +kernel
theorem dX6_piece_144 : decode cX6_piece 144 = .ok (.invokestatic 132, 3) := by decide +kernel
theorem dX6_piece_147 : decode cX6_piece 147 = .ok (.ifCond .eq 49, 3) := by decide +kernel
theorem dX6_piece_150 : decode cX6_piece 150 = .ok (.aload_n 0, 1) := by decide +kernel
theorem dX6_piece_151 : decode cX6_piece 151 = .ok (.iload_n 1, 1) := by decide +kernel
theorem dX6_piece_152 : decode cX6_piece 152 = .ok (.bipush 40, 2) := by decide +kernel
theorem dX6_piece_154 : decode cX6_piece 154 = .ok (.if_icmp .ge 7, 3) := by decide +kernel
theorem dX6_piece_157 : decode cX6_piece 157 = .ok (.iconst 2, 1) := by decide +kernel
theorem dX6_piece_158 : decode cX6_piece 158 = .ok (.goto 4, 3) := by decide +kernel
theorem dX6_piece_161 : decode cX6_piece 161 = .ok (.iconst 3, 1) := by decide +kernel
theorem dX6_piece_162 : decode cX6_piece 162 = .ok (.iload_n 1, 1) := by decide +kernel
theorem dX6_piece_163 : decode cX6_piece 163 = .ok (.bipush 40, 2) := by decide +kernel
theorem dX6_piece_165 : decode cX6_piece 165 = .ok (.if_icmp .ge 10, 3) := by decide +kernel
theorem dX6_piece_168 : decode cX6_piece 168 = .ok (.iload_n 1, 1) := by decide +kernel
theorem dX6_piece_169 : decode cX6_piece 169 = .ok (.bipush 32, 2) := by decide +kernel
theorem dX6_piece_171 : decode cX6_piece 171 = .ok (.isub, 1) := by decide +kernel
theorem dX6_piece_172 : decode cX6_piece 172 = .ok (.goto 7, 3) := by decide +kernel
theorem dX6_piece_175 : decode cX6_piece 175 = .ok (.iload_n 1, 1) := by decide +kernel
theorem dX6_piece_176 : decode cX6_piece 176 = .ok (.bipush 44, 2) := by decide +kernel
theorem dX6_piece_178 : decode cX6_piece 178 = .ok (.isub, 1) := by decide +kernel
theorem dX6_piece_179 : decode cX6_piece 179 = .ok (.invokevirtual 158, 3) := by decide +kernel
theorem dX6_piece_182 : decode cX6_piece 182 = .ok (.pop, 1) := by decide +kernel
theorem dX6_piece_183 : decode cX6_piece 183 = .ok (.aload_n 0, 1) := by decide +kernel
theorem dX6_piece_184 : decode cX6_piece 184 = .ok (.dup, 1) := by decide +kernel
theorem dX6_piece_185 : decode cX6_piece 185 = .ok (.getfield 104, 3) := by decide +kernel
theorem dX6_piece_188 : decode cX6_piece 188 = .ok (.iconst 1, 1) := by decide +kernel
theorem dX6_piece_189 : decode cX6_piece 189 = .ok (.iadd, 1) := by decide +kernel
theorem dX6_piece_190 : decode cX6_piece 190 = .ok (.putfield 104, 3) := by decide +kernel
theorem dX6_piece_193 : decode cX6_piece 193 = .ok (.goto 112, 3) := by decide +kernel
theorem dX6_piece_196 : decode cX6_piece 196 = .ok (.iload_n 1, 1) := by decide +kernel
theorem dX6_piece_197 : decode cX6_piece 197 = .ok (.bipush 40, 2) := by decide +kernel
theorem dX6_piece_199 : decode cX6_piece 199 = .ok (.bipush 43, 2) := by decide +kernel
theorem dX6_piece_201 : decode cX6_piece 201 = .ok (.invokestatic 132, 3) := by decide +kernel
theorem dX6_piece_204 : decode cX6_piece 204 = .ok (.ifCond .eq 34, 3) := by decide +kernel
theorem dX6_piece_207 : decode cX6_piece 207 = .ok (.aload_n 0, 1) := by decide +kernel
theorem dX6_piece_208 : decode cX6_piece 208 = .ok (.dup, 1) := by decide +kernel
theorem dX6_piece_209 : decode cX6_piece 209 = .ok (.getfield 104, 3) := by decide +kernel
theorem dX6_piece_212 : decode cX6_piece 212 = .ok (.iconst 1, 1) := by decide +kernel
theorem dX6_piece_213 : decode cX6_piece 213 = .ok (.iadd, 1) := by decide +kernel
theorem dX6_piece_214 : decode cX6_piece 214 = .ok (.putfield 104, 3) := by decide +kernel
theorem dX6_piece_217 : decode cX6_piece 217 = .ok (.aload_n 0, 1) := by decide +kernel
theorem dX6_piece_218 : decode cX6_piece 218 = .ok (.bipush 21, 2) := by decide +kernel
theorem dX6_piece_220 : decode cX6_piece 220 = .ok (.invokevirtual 128, 3) := by decide +kernel
theorem dX6_piece_223 : decode cX6_piece 223 = .ok (.ifCond .eq 82, 3) := by decide +kernel
theorem dX6_piece_226 : decode cX6_piece 226 = .ok (.aload_n 0, 1) := by decide +kernel
theorem dX6_piece_227 : decode cX6_piece 227 = .ok (.iconst 1, 1) := by decide +kernel
theorem dX6_piece_228 : decode cX6_piece 228 = .ok (.iload_n 1, 1) := by decide +kernel
theorem dX6_piece_229 : decode cX6_piece 229 = .ok (.bipush 40, 2) := by decide +kernel
theorem dX6_piece_231 : decode cX6_piece 231 = .ok (.isub, 1) := by decide +kernel
theorem dX6_piece_232 : decode cX6_piece 232 = .ok (.invokevirtual 152, 3) := by decide +kernel
theorem dX6_piece_235 : decode cX6_piece 235 = .ok (.goto 70, 3) := by decide +kernel
theorem dX6_piece_238 : decode cX6_piece 238 = .ok (.iload_n 1, 1) := by decide +kernel
theorem dX6_piece_239 : decode cX6_piece 239 = .ok (.bipush 52, 2) := by decide +kernel
theorem dX6_piece_241 : decode cX6_piece 241 = .ok (.bipush 57, 2) := by decide +kernel
theorem dX6_piece_243 : decode cX6_piece 243 = .ok (.invokestatic 132, 3) := by decide +kernel
theorem dX6_piece_246 : decode cX6_piece 246 = .ok (.ifCond .eq 25, 3) := by decide +kernel
theorem dX6_piece_249 : decode cX6_piece 249 = .ok (.aload_n 0, 1) := by decide +kernel
theorem dX6_piece_250 : decode cX6_piece 250 = .ok (.invokevirtual 181, 3) := by decide +kernel
theorem dX6_piece_253 : decode cX6_piece 253 = .ok (.istore_n 3, 1) := by decide +kernel
theorem dX6_piece_254 : decode cX6_piece 254 = .ok (.aload_n 0, 1) := by decide +kernel
theorem dX6_piece_255 : decode cX6_piece 255 = .ok (.bipush 6, 2) := by decide +kernel
theorem dX6_piece_257 : decode cX6_piece 257 = .ok (.invokevirtual 128, 3) := by decide +kernel
theorem dX6_piece_260 : decode cX6_piece 260 = .ok (.ifCond .eq 8, 3) := by decide +kernel
theorem dX6_piece_263 : decode cX6_piece 263 = .ok (.aload_n 0, 1) := by decide +kernel
theorem dX6_piece_264 : decode cX6_piece 264 = .ok (.iload_n 3, 1) := by decide +kernel
theorem dX6_piece_265 : decode cX6_piece 265 = .ok (.invokevirtual 187, 3) := by decide +kernel
theorem dX6_piece_268 : decode cX6_piece 268 = .ok (.goto 37, 3) := by decide +kernel
theorem dX6_piece_271 : decode cX6_piece 271 = .ok (.iload_n 1, 1) := by decide +kernel
theorem dX6_piece_272 : decode cX6_piece 272 = .ok (.bipush 6, 2) := by decide +kernel
theorem dX6_piece_274 : decode cX6_piece 274 = .ok (.if_icmp .ne 22, 3) := by decide +kernel
theorem dX6_piece_277 : decode cX6_piece 277 = .ok (.aload_n 0, 1) := by decide +kernel
theorem dX6_piece_278 : decode cX6_piece 278 = .ok (.dup, 1) := by decide +kernel
theorem dX6_piece_279 : decode cX6_piece 279 = .ok (.getfield 104, 3) := by decide +kernel
theorem dX6_piece_282 : decode cX6_piece 282 = .ok (.iconst 1, 1) := by decide +kernel
theorem dX6_piece_283 : decode cX6_piece 283 = .ok (.iadd, 1) := by decide +kernel
theorem dX6_piece_284 : decode cX6_piece 284 = .ok (.putfield 104, 3) := by decide +kernel
theorem dX6_piece_287 : decode cX6_piece 287 = .ok (.aload_n 0, 1) := by decide +kernel
theorem dX6_piece_288 : decode cX6_piece 288 = .ok (.iconst 0, 1) := by decide +kernel
theorem dX6_piece_289 : decode cX6_piece 289 = .ok (.iconst 0, 1) := by decide +kernel
theorem dX6_piece_290 : decode cX6_piece 290 = .ok (.invokevirtual 152, 3) := by decide +kernel
theorem dX6_piece_293 : decode cX6_piece 293 = .ok (.goto 12, 3) := by decide +kernel
theorem dX6_piece_296 : decode cX6_piece 296 = .ok (.aload_n 0, 1) := by decide +kernel
theorem dX6_piece_297 : decode cX6_piece 297 = .ok (.iconst 1, 1) := by decide +kernel
theorem dX6_piece_298 : decode cX6_piece 298 = .ok (.aload_n 0, 1) := by decide +kernel
theorem dX6_piece_299 : decode cX6_piece 299 = .ok (.getfield 104, 3) := by decide +kernel
theorem dX6_piece_302 : decode cX6_piece 302 = .ok (.invokevirtual 117, 3) := by decide +kernel
theorem dX6_piece_305 : decode cX6_piece 305 = .ok (.return_, 1) := by decide +kernel
theorem dX6_arguments_0 : decode cX6_arguments 0 = .ok (.aload_n 0, 1) := by decide +kernel
theorem dX6_arguments_1 : decode cX6_arguments 1 = .ok (.invokevirtual 113, 3) := by decide +kernel
theorem dX6_arguments_4 : decode cX6_arguments 4 = .ok (.bipush 7, 2) := by decide +kernel
theorem dX6_arguments_6 : decode cX6_arguments 6 = .ok (.if_icmp .ne 21, 3) := by decide +kernel
theorem dX6_arguments_9 : decode cX6_arguments 9 = .ok (.aload_n 0, 1) := by decide +kernel
theorem dX6_arguments_10 : decode cX6_arguments 10 = .ok (.dup, 1) := by decide +kernel
theorem dX6_arguments_11 : decode cX6_arguments 11 = .ok (.getfield 104, 3) := by decide +kernel
theorem dX6_arguments_14 : decode cX6_arguments 14 = .ok (.iconst 1, 1) := by decide +kernel
theorem dX6_arguments_15 : decode cX6_arguments 15 = .ok (.iadd, 1) := by decide +kernel
theorem dX6_arguments_16 : decode cX6_arguments 16 = .ok (.putfield 104, 3) := by decide +kernel
theorem dX6_arguments_19 : decode cX6_arguments 19 = .ok (.aload_n 0, 1) := by decide +kernel
theorem dX6_arguments_20 : decode cX6_arguments 20 = .ok (.iload_n 1, 1) := by decide +kernel
theorem dX6_arguments_21 : decode cX6_arguments 21 = .ok (.invokevirtual 184, 3) := by decide +kernel
theorem dX6_arguments_24 : decode cX6_arguments 24 = .ok (.goto 16, 3) := by decide +kernel
theorem dX6_arguments_27 : decode cX6_arguments 27 = .ok (.aload_n 0, 1) := by decide +kernel
theorem dX6_arguments_28 : decode cX6_arguments 28 = .ok (.getfield 43, 3) := by decide +kernel
theorem dX6_arguments_31 : decode cX6_arguments 31 = .ok (.iload_n 1, 1) := by decide +kernel
theorem dX6_arguments_32 : decode cX6_arguments 32 = .ok (.iconst 1, 1) := by decide +kernel
theorem dX6_arguments_33 : decode cX6_arguments 33 = .ok (.iastore, 1) := by decide +kernel
theorem dX6_arguments_34 : decode cX6_arguments 34 = .ok (.aload_n 0, 1) := by decide +kernel
theorem dX6_arguments_35 : decode cX6_arguments 35 = .ok (.iconst 2, 1) := by decide +kernel
theorem dX6_arguments_36 : decode cX6_arguments 36 = .ok (.iload_n 1, 1) := by decide +kernel
theorem dX6_arguments_37 : decode cX6_arguments 37 = .ok (.invokevirtual 152, 3) := by decide +kernel
theorem dX6_arguments_40 : decode cX6_arguments 40 = .ok (.return_, 1) := by decide +kernel
theorem dX6_levelOf_0 : decode cX6_levelOf 0 = .ok (.iload_n 0, 1) := by decide +kernel
theorem dX6_levelOf_1 : decode cX6_levelOf 1 = .ok (.bipush 18, 2) := by decide +kernel
theorem dX6_levelOf_3 : decode cX6_levelOf 3 = .ok (.if_icmp .eq 9, 3) := by decide +kernel
theorem dX6_levelOf_6 : decode cX6_levelOf 6 = .ok (.iload_n 0, 1) := by decide +kernel
theorem dX6_levelOf_7 : decode cX6_levelOf 7 = .ok (.bipush 19, 2) := by decide +kernel
theorem dX6_levelOf_9 : decode cX6_levelOf 9 = .ok (.if_icmp .ne 7, 3) := by decide +kernel
theorem dX6_levelOf_12 : decode cX6_levelOf 12 = .ok (.iconst 1, 1) := by decide +kernel
theorem dX6_levelOf_13 : decode cX6_levelOf 13 = .ok (.goto 36, 3) := by decide +kernel
theorem dX6_levelOf_16 : decode cX6_levelOf 16 = .ok (.iload_n 0, 1) := by decide +kernel
theorem dX6_levelOf_17 : decode cX6_levelOf 17 = .ok (.bipush 13, 2) := by decide +kernel
theorem dX6_levelOf_19 : decode cX6_levelOf 19 = .ok (.if_icmp .eq 9, 3) := by decide +kernel
theorem dX6_levelOf_22 : decode cX6_levelOf 22 = .ok (.iload_n 0, 1) := by decide +kernel
theorem dX6_levelOf_23 : decode cX6_levelOf 23 = .ok (.bipush 14, 2) := by decide +kernel
theorem dX6_levelOf_25 : decode cX6_levelOf 25 = .ok (.if_icmp .ne 7, 3) := by decide +kernel
theorem dX6_levelOf_28 : decode cX6_levelOf 28 = .ok (.iconst 2, 1) := by decide +kernel
theorem dX6_levelOf_29 : decode cX6_levelOf 29 = .ok (.goto 20, 3) := by decide +kernel
theorem dX6_levelOf_32 : decode cX6_levelOf 32 = .ok (.iload_n 0, 1) := by decide +kernel
theorem dX6_levelOf_33 : decode cX6_levelOf 33 = .ok (.bipush 15, 2) := by decide +kernel
theorem dX6_levelOf_35 : decode cX6_levelOf 35 = .ok (.if_icmp .lt 13, 3) := by decide +kernel
theorem dX6_levelOf_38 : decode cX6_levelOf 38 = .ok (.iload_n 0, 1) := by decide +kernel
theorem dX6_levelOf_39 : decode cX6_levelOf 39 = .ok (.bipush 17, 2) := by decide +kernel
theorem dX6_levelOf_41 : decode cX6_levelOf 41 = .ok (.if_icmp .gt 7, 3) := by decide +kernel
theorem dX6_levelOf_44 : decode cX6_levelOf 44 = .ok (.iconst 3, 1) := by decide +kernel
theorem dX6_levelOf_45 : decode cX6_levelOf 45 = .ok (.goto 4, 3) := by decide +kernel
theorem dX6_levelOf_48 : decode cX6_levelOf 48 = .ok (.iconst 0, 1) := by decide +kernel
theorem dX6_levelOf_49 : decode cX6_levelOf 49 = .ok (.ireturn, 1) := by decide +kernel
theorem dX6_reduce_0 : decode cX6_reduce 0 = .ok (.aload_n 0, 1) := by decide +kernel
theorem dX6_reduce_1 : decode cX6_reduce 1 = .ok (.getfield 149, 3) := by decide +kernel
theorem dX6_reduce_4 : decode cX6_reduce 4 = .ok (.aload_n 0, 1) := by decide +kernel
theorem dX6_reduce_5 : decode cX6_reduce 5 = .ok (.getfield 61, 3) := by decide +kernel
theorem dX6_reduce_8 : decode cX6_reduce 8 = .ok (.aload_n 0, 1) := by decide +kernel
theorem dX6_reduce_9 : decode cX6_reduce 9 = .ok (.getfield 146, 3) := by decide +kernel
theorem dX6_reduce_12 : decode cX6_reduce 12 = .ok (.iconst 1, 1) := by decide +kernel
theorem dX6_reduce_13 : decode cX6_reduce 13 = .ok (.isub, 1) := by decide +kernel
theorem dX6_reduce_14 : decode cX6_reduce 14 = .ok (.iaload, 1) := by decide +kernel
theorem dX6_reduce_15 : decode cX6_reduce 15 = .ok (.if_icmp .le 49, 3) := by decide +kernel
theorem dX6_reduce_18 : decode cX6_reduce 18 = .ok (.aload_n 0, 1) := by decide +kernel
theorem dX6_reduce_19 : decode cX6_reduce 19 = .ok (.getfield 70, 3) := by decide +kernel
theorem dX6_reduce_22 : decode cX6_reduce 22 = .ok (.aload_n 0, 1) := by decide +kernel
theorem dX6_reduce_23 : decode cX6_reduce 23 = .ok (.getfield 149, 3) := by decide +kernel
theorem dX6_reduce_26 : decode cX6_reduce 26 = .ok (.iconst 1, 1) := by decide +kernel
theorem dX6_reduce_27 : decode cX6_reduce 27 = .ok (.isub, 1) := by decide +kernel
theorem dX6_reduce_28 : decode cX6_reduce 28 = .ok (.iaload, 1) := by decide +kernel
theorem dX6_reduce_29 : decode cX6_reduce 29 = .ok (.iload_n 1, 1) := by decide +kernel
theorem dX6_reduce_30 : decode cX6_reduce 30 = .ok (.if_icmp .lt 34, 3) := by decide +kernel
theorem dX6_reduce_33 : decode cX6_reduce 33 = .ok (.aload_n 0, 1) := by decide +kernel
theorem dX6_reduce_34 : decode cX6_reduce 34 = .ok (.dup, 1) := by decide +kernel
theorem dX6_reduce_35 : decode cX6_reduce 35 = .ok (.getfield 149, 3) := by decide +kernel
theorem dX6_reduce_38 : decode cX6_reduce 38 = .ok (.iconst 1, 1) := by decide +kernel
theorem dX6_reduce_39 : decode cX6_reduce 39 = .ok (.isub, 1) := by decide +kernel
theorem dX6_reduce_40 : decode cX6_reduce 40 = .ok (.putfield 149, 3) := by decide +kernel
theorem dX6_reduce_43 : decode cX6_reduce 43 = .ok (.aload_n 0, 1) := by decide +kernel
theorem dX6_reduce_44 : decode cX6_reduce 44 = .ok (.aload_n 0, 1) := by decide +kernel
theorem dX6_reduce_45 : decode cX6_reduce 45 = .ok (.getfield 67, 3) := by decide +kernel
theorem dX6_reduce_48 : decode cX6_reduce 48 = .ok (.aload_n 0, 1) := by decide +kernel
theorem dX6_reduce_49 : decode cX6_reduce 49 = .ok (.getfield 149, 3) := by decide +kernel
theorem dX6_reduce_52 : decode cX6_reduce 52 = .ok (.iaload, 1) := by decide +kernel
theorem dX6_reduce_53 : decode cX6_reduce 53 = .ok (.bipush 20, 2) := by decide +kernel
theorem dX6_reduce_55 : decode cX6_reduce 55 = .ok (.iadd, 1) := by decide +kernel
theorem dX6_reduce_56 : decode cX6_reduce 56 = .ok (.iconst 0, 1) := by decide +kernel
theorem dX6_reduce_57 : decode cX6_reduce 57 = .ok (.invokevirtual 158, 3) := by decide +kernel
theorem dX6_reduce_60 : decode cX6_reduce 60 = .ok (.pop, 1) := by decide +kernel
theorem dX6_reduce_61 : decode cX6_reduce 61 = .ok (.goto (-61), 3) := by decide +kernel
theorem dX6_reduce_64 : decode cX6_reduce 64 = .ok (.return_, 1) := by decide +kernel
theorem dX6_behind_0 : decode cX6_behind 0 = .ok (.aload_n 0, 1) := by decide +kernel
theorem dX6_behind_1 : decode cX6_behind 1 = .ok (.getfield 146, 3) := by decide +kernel
theorem dX6_behind_4 : decode cX6_behind 4 = .ok (.iconst 1, 1) := by decide +kernel
theorem dX6_behind_5 : decode cX6_behind 5 = .ok (.isub, 1) := by decide +kernel
theorem dX6_behind_6 : decode cX6_behind 6 = .ok (.istore_n 1, 1) := by decide +kernel
theorem dX6_behind_7 : decode cX6_behind 7 = .ok (.aload_n 0, 1) := by decide +kernel
theorem dX6_behind_8 : decode cX6_behind 8 = .ok (.getfield 58, 3) := by decide +kernel
theorem dX6_behind_11 : decode cX6_behind 11 = .ok (.iload_n 1, 1) := by decide +kernel
theorem dX6_behind_12 : decode cX6_behind 12 = .ok (.iaload, 1) := by decide +kernel
theorem dX6_behind_13 : decode cX6_behind 13 = .ok (.iconst (-1), 1) := by decide +kernel
theorem dX6_behind_14 : decode cX6_behind 14 = .ok (.if_icmp .eq 22, 3) := by decide +kernel
theorem dX6_behind_17 : decode cX6_behind 17 = .ok (.aload_n 0, 1) := by decide +kernel
theorem dX6_behind_18 : decode cX6_behind 18 = .ok (.aload_n 0, 1) := by decide +kernel
theorem dX6_behind_19 : decode cX6_behind 19 = .ok (.getfield 58, 3) := by decide +kernel
theorem dX6_behind_22 : decode cX6_behind 22 = .ok (.iload_n 1, 1) := by decide +kernel
theorem dX6_behind_23 : decode cX6_behind 23 = .ok (.iaload, 1) := by decide +kernel
theorem dX6_behind_24 : decode cX6_behind 24 = .ok (.iconst 0, 1) := by decide +kernel
theorem dX6_behind_25 : decode cX6_behind 25 = .ok (.invokevirtual 158, 3) := by decide +kernel
theorem dX6_behind_28 : decode cX6_behind 28 = .ok (.pop, 1) := by decide +kernel
theorem dX6_behind_29 : decode cX6_behind 29 = .ok (.aload_n 0, 1) := by decide +kernel
theorem dX6_behind_30 : decode cX6_behind 30 = .ok (.getfield 58, 3) := by decide +kernel
theorem dX6_behind_33 : decode cX6_behind 33 = .ok (.iload_n 1, 1) := by decide +kernel
theorem dX6_behind_34 : decode cX6_behind 34 = .ok (.iconst (-1), 1) := by decide +kernel
theorem dX6_behind_35 : decode cX6_behind 35 = .ok (.iastore, 1) := by decide +kernel
theorem dX6_behind_36 : decode cX6_behind 36 = .ok (.aload_n 0, 1) := by decide +kernel
theorem dX6_behind_37 : decode cX6_behind 37 = .ok (.invokevirtual 113, 3) := by decide +kernel
theorem dX6_behind_40 : decode cX6_behind 40 = .ok (.invokestatic 190, 3) := by decide +kernel
theorem dX6_behind_43 : decode cX6_behind 43 = .ok (.istore_n 2, 1) := by decide +kernel
theorem dX6_behind_44 : decode cX6_behind 44 = .ok (.aload_n 0, 1) := by decide +kernel
theorem dX6_behind_45 : decode cX6_behind 45 = .ok (.iload_n 2, 1) := by decide +kernel
theorem dX6_behind_46 : decode cX6_behind 46 = .ok (.ifCond .ne 7, 3) := by decide +kernel
theorem dX6_behind_49 : decode cX6_behind 49 = .ok (.iconst 1, 1) := by decide +kernel
theorem dX6_behind_50 : decode cX6_behind 50 = .ok (.goto 13, 3) := by decide +kernel
theorem dX6_behind_53 : decode cX6_behind 53 = .ok (.iload_n 2, 1) := by decide +kernel
theorem dX6_behind_54 : decode cX6_behind 54 = .ok (.iconst 1, 1) := by decide +kernel
theorem dX6_behind_55 : decode cX6_behind 55 = .ok (.if_icmp .ne 7, 3) := by decide +kernel
theorem dX6_behind_58 : decode cX6_behind 58 = .ok (.iconst 2, 1) := by decide +kernel
theorem dX6_behind_59 : decode cX6_behind 59 = .ok (.goto 4, 3) := by decide +kernel
theorem dX6_behind_62 : decode cX6_behind 62 = .ok (.iload_n 2, 1) := by decide +kernel
theorem dX6_behind_63 : decode cX6_behind 63 = .ok (.invokevirtual 194, 3) := by decide +kernel
theorem dX6_behind_66 : decode cX6_behind 66 = .ok (.iload_n 2, 1) := by decide +kernel
theorem dX6_behind_67 : decode cX6_behind 67 = .ok (.iconst 1, 1) := by decide +kernel
theorem dX6_behind_68 : decode cX6_behind 68 = .ok (.if_icmp .ne 35, 3) := by decide +kernel
theorem dX6_behind_71 : decode cX6_behind 71 = .ok (.aload_n 0, 1) := by decide +kernel
theorem dX6_behind_72 : decode cX6_behind 72 = .ok (.getfield 149, 3) := by decide +kernel
theorem dX6_behind_75 : decode cX6_behind 75 = .ok (.aload_n 0, 1) := by decide +kernel
theorem dX6_behind_76 : decode cX6_behind 76 = .ok (.getfield 61, 3) := by decide +kernel
theorem dX6_behind_79 : decode cX6_behind 79 = .ok (.iload_n 1, 1) := by decide +kernel
theorem dX6_behind_80 : decode cX6_behind 80 = .ok (.iaload, 1) := by decide +kernel
theorem dX6_behind_81 : decode cX6_behind 81 = .ok (.if_icmp .le 22, 3) := by decide +kernel
theorem dX6_behind_84 : decode cX6_behind 84 = .ok (.aload_n 0, 1) := by decide +kernel
theorem dX6_behind_85 : decode cX6_behind 85 = .ok (.getfield 70, 3) := by decide +kernel
theorem dX6_behind_88 : decode cX6_behind 88 = .ok (.aload_n 0, 1) := by decide +kernel
theorem dX6_behind_89 : decode cX6_behind 89 = .ok (.getfield 149, 3) := by decide +kernel
theorem dX6_behind_92 : decode cX6_behind 92 = .ok (.iconst 1, 1) := by decide +kernel
theorem dX6_behind_93 : decode cX6_behind 93 = .ok (.isub, 1) := by decide +kernel
theorem dX6_behind_94 : decode cX6_behind 94 = .ok (.iaload, 1) := by decide +kernel
theorem dX6_behind_95 : decode cX6_behind 95 = .ok (.iconst 1, 1) := by decide +kernel
theorem dX6_behind_96 : decode cX6_behind 96 = .ok (.if_icmp .ne 7, 3) := by decide +kernel
theorem dX6_behind_99 : decode cX6_behind 99 = .ok (.iconst 1, 1) := by decide +kernel
theorem dX6_behind_100 : decode cX6_behind 100 = .ok (.goto 4, 3) := by decide +kernel
theorem dX6_behind_103 : decode cX6_behind 103 = .ok (.iconst 0, 1) := by decide +kernel
theorem dX6_behind_104 : decode cX6_behind 104 = .ok (.istore_n 3, 1) := by decide +kernel
theorem dX6_behind_105 : decode cX6_behind 105 = .ok (.iload_n 2, 1) := by decide +kernel
theorem dX6_behind_106 : decode cX6_behind 106 = .ok (.ifCond .le 56, 3) := by decide +kernel
theorem dX6_behind_109 : decode cX6_behind 109 = .ok (.iload_n 3, 1) := by decide +kernel
theorem dX6_behind_110 : decode cX6_behind 110 = .ok (.ifCond .ne 52, 3) := by decide +kernel
theorem dX6_behind_113 : decode cX6_behind 113 = .ok (.aload_n 0, 1) := by decide +kernel
theorem dX6_behind_114 : decode cX6_behind 114 = .ok (.getfield 67, 3) := by decide +kernel
theorem dX6_behind_117 : decode cX6_behind 117 = .ok (.aload_n 0, 1) := by decide +kernel
theorem dX6_behind_118 : decode cX6_behind 118 = .ok (.getfield 149, 3) := by decide +kernel
theorem dX6_behind_121 : decode cX6_behind 121 = .ok (.aload_n 0, 1) := by decide +kernel
theorem dX6_behind_122 : decode cX6_behind 122 = .ok (.invokevirtual 113, 3) := by decide +kernel
theorem dX6_behind_125 : decode cX6_behind 125 = .ok (.iastore, 1) := by decide +kernel
theorem dX6_behind_126 : decode cX6_behind 126 = .ok (.aload_n 0, 1) := by decide +kernel
theorem dX6_behind_127 : decode cX6_behind 127 = .ok (.getfield 70, 3) := by decide +kernel
theorem dX6_behind_130 : decode cX6_behind 130 = .ok (.aload_n 0, 1) := by decide +kernel
theorem dX6_behind_131 : decode cX6_behind 131 = .ok (.getfield 149, 3) := by decide +kernel
theorem dX6_behind_134 : decode cX6_behind 134 = .ok (.iload_n 2, 1) := by decide +kernel
theorem dX6_behind_135 : decode cX6_behind 135 = .ok (.iastore, 1) := by decide +kernel
theorem dX6_behind_136 : decode cX6_behind 136 = .ok (.aload_n 0, 1) := by decide +kernel
theorem dX6_behind_137 : decode cX6_behind 137 = .ok (.dup, 1) := by decide +kernel
theorem dX6_behind_138 : decode cX6_behind 138 = .ok (.getfield 149, 3) := by decide +kernel
theorem dX6_behind_141 : decode cX6_behind 141 = .ok (.iconst 1, 1) := by decide +kernel
theorem dX6_behind_142 : decode cX6_behind 142 = .ok (.iadd, 1) := by decide +kernel
theorem dX6_behind_143 : decode cX6_behind 143 = .ok (.putfield 149, 3) := by decide +kernel
theorem dX6_behind_146 : decode cX6_behind 146 = .ok (.aload_n 0, 1) := by decide +kernel
theorem dX6_behind_147 : decode cX6_behind 147 = .ok (.dup, 1) := by decide +kernel
theorem dX6_behind_148 : decode cX6_behind 148 = .ok (.getfield 104, 3) := by decide +kernel
theorem dX6_behind_151 : decode cX6_behind 151 = .ok (.iconst 1, 1) := by decide +kernel
theorem dX6_behind_152 : decode cX6_behind 152 = .ok (.iadd, 1) := by decide +kernel
theorem dX6_behind_153 : decode cX6_behind 153 = .ok (.putfield 104, 3) := by decide +kernel
theorem dX6_behind_156 : decode cX6_behind 156 = .ok (.aload_n 0, 1) := by decide +kernel
theorem dX6_behind_157 : decode cX6_behind 157 = .ok (.iconst 3, 1) := by decide +kernel
theorem dX6_behind_158 : decode cX6_behind 158 = .ok (.putfield 143, 3) := by decide +kernel
theorem dX6_behind_161 : decode cX6_behind 161 = .ok (.return_, 1) := by decide +kernel
theorem dX6_behind_162 : decode cX6_behind 162 = .ok (.iload_n 3, 1) := by decide +kernel
theorem dX6_behind_163 : decode cX6_behind 163 = .ok (.ifCond .eq 13, 3) := by decide +kernel
theorem dX6_behind_166 : decode cX6_behind 166 = .ok (.aload_n 0, 1) := by decide +kernel
theorem dX6_behind_167 : decode cX6_behind 167 = .ok (.iconst 1, 1) := by decide +kernel
theorem dX6_behind_168 : decode cX6_behind 168 = .ok (.aload_n 0, 1) := by decide +kernel
theorem dX6_behind_169 : decode cX6_behind 169 = .ok (.getfield 104, 3) := by decide +kernel
theorem dX6_behind_172 : decode cX6_behind 172 = .ok (.invokevirtual 117, 3) := by decide +kernel
theorem dX6_behind_175 : decode cX6_behind 175 = .ok (.return_, 1) := by decide +kernel
theorem dX6_behind_176 : decode cX6_behind 176 = .ok (.aload_n 0, 1) := by decide +kernel
theorem dX6_behind_177 : decode cX6_behind 177 = .ok (.aload_n 0, 1) := by decide +kernel
theorem dX6_behind_178 : decode cX6_behind 178 = .ok (.getfield 55, 3) := by decide +kernel
theorem dX6_behind_181 : decode cX6_behind 181 = .ok (.iload_n 1, 1) := by decide +kernel
theorem dX6_behind_182 : decode cX6_behind 182 = .ok (.iaload, 1) := by decide +kernel
theorem dX6_behind_183 : decode cX6_behind 183 = .ok (.aload_n 0, 1) := by decide +kernel
theorem dX6_behind_184 : decode cX6_behind 184 = .ok (.getfield 64, 3) := by decide +kernel
theorem dX6_behind_187 : decode cX6_behind 187 = .ok (.iload_n 1, 1) := by decide +kernel
theorem dX6_behind_188 : decode cX6_behind 188 = .ok (.iaload, 1) := by decide +kernel
theorem dX6_behind_189 : decode cX6_behind 189 = .ok (.invokevirtual 197, 3) := by decide +kernel
theorem dX6_behind_192 : decode cX6_behind 192 = .ok (.return_, 1) := by decide +kernel
theorem dX6_valueEnds_0 : decode cX6_valueEnds 0 = .ok (.iload_n 1, 1) := by decide +kernel
theorem dX6_valueEnds_1 : decode cX6_valueEnds 1 = .ok (.ifCond .ne 25, 3) := by decide +kernel
theorem dX6_valueEnds_4 : decode cX6_valueEnds 4 = .ok (.aload_n 0, 1) := by decide +kernel
theorem dX6_valueEnds_5 : decode cX6_valueEnds 5 = .ok (.bipush 7, 2) := by decide +kernel
theorem dX6_valueEnds_7 : decode cX6_valueEnds 7 = .ok (.invokevirtual 128, 3) := by decide +kernel
theorem dX6_valueEnds_10 : decode cX6_valueEnds 10 = .ok (.ifCond .eq 199, 3) := by decide +kernel
theorem dX6_valueEnds_13 : decode cX6_valueEnds 13 = .ok (.aload_n 0, 1) := by decide +kernel
theorem dX6_valueEnds_14 : decode cX6_valueEnds 14 = .ok (.dup, 1) := by decide +kernel
theorem dX6_valueEnds_15 : decode cX6_valueEnds 15 = .ok (.getfield 146, 3) := by decide +kernel
theorem dX6_valueEnds_18 : decode cX6_valueEnds 18 = .ok (.iconst 1, 1) := by decide +kernel
theorem dX6_valueEnds_19 : decode cX6_valueEnds 19 = .ok (.isub, 1) := by decide +kernel
theorem dX6_valueEnds_20 : decode cX6_valueEnds 20 = .ok (.putfield 146, 3) := by decide +kernel
theorem dX6_valueEnds_23 : decode cX6_valueEnds 23 = .ok (.goto 186, 3) := by decide +kernel
theorem dX6_valueEnds_26 : decode cX6_valueEnds 26 = .ok (.iload_n 1, 1) := by decide +kernel
theorem dX6_valueEnds_27 : decode cX6_valueEnds 27 = .ok (.iconst 1, 1) := by decide +kernel
theorem dX6_valueEnds_28 : decode cX6_valueEnds 28 = .ok (.if_icmp .ne 32, 3) := by decide +kernel
theorem dX6_valueEnds_31 : decode cX6_valueEnds 31 = .ok (.aload_n 0, 1) := by decide +kernel
theorem dX6_valueEnds_32 : decode cX6_valueEnds 32 = .ok (.bipush 22, 2) := by decide +kernel
theorem dX6_valueEnds_34 : decode cX6_valueEnds 34 = .ok (.invokevirtual 128, 3) := by decide +kernel
theorem dX6_valueEnds_37 : decode cX6_valueEnds 37 = .ok (.ifCond .eq 172, 3) := by decide +kernel
theorem dX6_valueEnds_40 : decode cX6_valueEnds 40 = .ok (.aload_n 0, 1) := by decide +kernel
theorem dX6_valueEnds_41 : decode cX6_valueEnds 41 = .ok (.iconst 4, 1) := by decide +kernel
theorem dX6_valueEnds_42 : decode cX6_valueEnds 42 = .ok (.iload_n 2, 1) := by decide +kernel
theorem dX6_valueEnds_43 : decode cX6_valueEnds 43 = .ok (.invokevirtual 158, 3) := by decide +kernel
theorem dX6_valueEnds_46 : decode cX6_valueEnds 46 = .ok (.pop, 1) := by decide +kernel
theorem dX6_valueEnds_47 : decode cX6_valueEnds 47 = .ok (.aload_n 0, 1) := by decide +kernel
theorem dX6_valueEnds_48 : decode cX6_valueEnds 48 = .ok (.dup, 1) := by decide +kernel
theorem dX6_valueEnds_49 : decode cX6_valueEnds 49 = .ok (.getfield 146, 3) := by decide +kernel
theorem dX6_valueEnds_52 : decode cX6_valueEnds 52 = .ok (.iconst 1, 1) := by decide +kernel
theorem dX6_valueEnds_53 : decode cX6_valueEnds 53 = .ok (.isub, 1) := by decide +kernel
theorem dX6_valueEnds_54 : decode cX6_valueEnds 54 = .ok (.putfield 146, 3) := by decide +kernel
theorem dX6_valueEnds_57 : decode cX6_valueEnds 57 = .ok (.goto 152, 3) := by decide +kernel
theorem dX6_valueEnds_60 : decode cX6_valueEnds 60 = .ok (.iload_n 1, 1) := by decide +kernel
theorem dX6_valueEnds_61 : decode cX6_valueEnds 61 = .ok (.iconst 2, 1) := by decide +kernel
theorem dX6_valueEnds_62 : decode cX6_valueEnds 62 = .ok (.if_icmp .eq 9, 3) := by decide +kernel
theorem dX6_valueEnds_65 : decode cX6_valueEnds 65 = .ok (.iload_n 1, 1) := by decide +kernel
theorem dX6_valueEnds_66 : decode cX6_valueEnds 66 = .ok (.bipush 9, 2) := by decide +kernel
theorem dX6_valueEnds_68 : decode cX6_valueEnds 68 = .ok (.if_icmp .ne 12, 3) := by decide +kernel
theorem dX6_valueEnds_71 : decode cX6_valueEnds 71 = .ok (.aload_n 0, 1) := by decide +kernel
theorem dX6_valueEnds_72 : decode cX6_valueEnds 72 = .ok (.iload_n 1, 1) := by decide +kernel
theorem dX6_valueEnds_73 : decode cX6_valueEnds 73 = .ok (.iload_n 2, 1) := by decide +kernel
theorem dX6_valueEnds_74 : decode cX6_valueEnds 74 = .ok (.invokevirtual 200, 3) := by decide +kernel
theorem dX6_valueEnds_77 : decode cX6_valueEnds 77 = .ok (.goto 132, 3) := by decide +kernel
theorem dX6_valueEnds_80 : decode cX6_valueEnds 80 = .ok (.iload_n 1, 1) := by decide +kernel
theorem dX6_valueEnds_81 : decode cX6_valueEnds 81 = .ok (.iconst 3, 1) := by decide +kernel
theorem dX6_valueEnds_82 : decode cX6_valueEnds 82 = .ok (.if_icmp .ne 29, 3) := by decide +kernel
theorem dX6_valueEnds_85 : decode cX6_valueEnds 85 = .ok (.aload_n 0, 1) := by decide +kernel
theorem dX6_valueEnds_86 : decode cX6_valueEnds 86 = .ok (.bipush 22, 2) := by decide +kernel
theorem dX6_valueEnds_88 : decode cX6_valueEnds 88 = .ok (.invokevirtual 128, 3) := by decide +kernel
theorem dX6_valueEnds_91 : decode cX6_valueEnds 91 = .ok (.ifCond .eq 118, 3) := by decide +kernel
theorem dX6_valueEnds_94 : decode cX6_valueEnds 94 = .ok (.aload_n 0, 1) := by decide +kernel
theorem dX6_valueEnds_95 : decode cX6_valueEnds 95 = .ok (.bipush 12, 2) := by decide +kernel
theorem dX6_valueEnds_97 : decode cX6_valueEnds 97 = .ok (.invokevirtual 128, 3) := by decide +kernel
theorem dX6_valueEnds_100 : decode cX6_valueEnds 100 = .ok (.ifCond .eq 109, 3) := by decide +kernel
theorem dX6_valueEnds_103 : decode cX6_valueEnds 103 = .ok (.aload_n 0, 1) := by decide +kernel
theorem dX6_valueEnds_104 : decode cX6_valueEnds 104 = .ok (.iconst 4, 1) := by decide +kernel
theorem dX6_valueEnds_105 : decode cX6_valueEnds 105 = .ok (.invokevirtual 177, 3) := by decide +kernel
theorem dX6_valueEnds_108 : decode cX6_valueEnds 108 = .ok (.goto 101, 3) := by decide +kernel
theorem dX6_valueEnds_111 : decode cX6_valueEnds 111 = .ok (.iload_n 1, 1) := by decide +kernel
theorem dX6_valueEnds_112 : decode cX6_valueEnds 112 = .ok (.iconst 5, 1) := by decide +kernel
theorem dX6_valueEnds_113 : decode cX6_valueEnds 113 = .ok (.if_icmp .eq 9, 3) := by decide +kernel
theorem dX6_valueEnds_116 : decode cX6_valueEnds 116 = .ok (.iload_n 1, 1) := by decide +kernel
theorem dX6_valueEnds_117 : decode cX6_valueEnds 117 = .ok (.bipush 6, 2) := by decide +kernel
theorem dX6_valueEnds_119 : decode cX6_valueEnds 119 = .ok (.if_icmp .ne 42, 3) := by decide +kernel
theorem dX6_valueEnds_122 : decode cX6_valueEnds 122 = .ok (.aload_n 0, 1) := by decide +kernel
theorem dX6_valueEnds_123 : decode cX6_valueEnds 123 = .ok (.bipush 7, 2) := by decide +kernel
theorem dX6_valueEnds_125 : decode cX6_valueEnds 125 = .ok (.invokevirtual 128, 3) := by decide +kernel
theorem dX6_valueEnds_128 : decode cX6_valueEnds 128 = .ok (.ifCond .eq 81, 3) := by decide +kernel
theorem dX6_valueEnds_131 : decode cX6_valueEnds 131 = .ok (.aload_n 0, 1) := by decide +kernel
theorem dX6_valueEnds_132 : decode cX6_valueEnds 132 = .ok (.bipush 13, 2) := by decide +kernel
theorem dX6_valueEnds_134 : decode cX6_valueEnds 134 = .ok (.iconst 0, 1) := by decide +kernel
theorem dX6_valueEnds_135 : decode cX6_valueEnds 135 = .ok (.invokevirtual 158, 3) := by decide +kernel
theorem dX6_valueEnds_138 : decode cX6_valueEnds 138 = .ok (.istore_n 3, 1) := by decide +kernel
theorem dX6_valueEnds_139 : decode cX6_valueEnds 139 = .ok (.aload_n 0, 1) := by decide +kernel
theorem dX6_valueEnds_140 : decode cX6_valueEnds 140 = .ok (.iload_n 1, 1) := by decide +kernel
theorem dX6_valueEnds_141 : decode cX6_valueEnds 141 = .ok (.iconst 5, 1) := by decide +kernel
theorem dX6_valueEnds_142 : decode cX6_valueEnds 142 = .ok (.if_icmp .ne 7, 3) := by decide +kernel
theorem dX6_valueEnds_145 : decode cX6_valueEnds 145 = .ok (.iconst 1, 1) := by decide +kernel
theorem dX6_valueEnds_146 : decode cX6_valueEnds 146 = .ok (.goto 4, 3) := by decide +kernel
theorem dX6_valueEnds_149 : decode cX6_valueEnds 149 = .ok (.iconst 3, 1) := by decide +kernel
theorem dX6_valueEnds_150 : decode cX6_valueEnds 150 = .ok (.iload_n 3, 1) := by decide +kernel
theorem dX6_valueEnds_151 : decode cX6_valueEnds 151 = .ok (.aload_n 0, 1) := by decide +kernel
theorem dX6_valueEnds_152 : decode cX6_valueEnds 152 = .ok (.getfield 168, 3) := by decide +kernel
theorem dX6_valueEnds_155 : decode cX6_valueEnds 155 = .ok (.invokevirtual 136, 3) := by decide +kernel
theorem dX6_valueEnds_158 : decode cX6_valueEnds 158 = .ok (.goto 51, 3) := by decide +kernel
theorem dX6_valueEnds_161 : decode cX6_valueEnds 161 = .ok (.aload_n 0, 1) := by decide +kernel
theorem dX6_valueEnds_162 : decode cX6_valueEnds 162 = .ok (.bipush 10, 2) := by decide +kernel
theorem dX6_valueEnds_164 : decode cX6_valueEnds 164 = .ok (.invokevirtual 128, 3) := by decide +kernel
theorem dX6_valueEnds_167 : decode cX6_valueEnds 167 = .ok (.ifCond .eq 42, 3) := by decide +kernel
theorem dX6_valueEnds_170 : decode cX6_valueEnds 170 = .ok (.aload_n 0, 1) := by decide +kernel
theorem dX6_valueEnds_171 : decode cX6_valueEnds 171 = .ok (.iload_n 1, 1) := by decide +kernel
theorem dX6_valueEnds_172 : decode cX6_valueEnds 172 = .ok (.iconst 4, 1) := by decide +kernel
theorem dX6_valueEnds_173 : decode cX6_valueEnds 173 = .ok (.if_icmp .ne 10, 3) := by decide +kernel
theorem dX6_valueEnds_176 : decode cX6_valueEnds 176 = .ok (.aload_n 0, 1) := by decide +kernel
theorem dX6_valueEnds_177 : decode cX6_valueEnds 177 = .ok (.getfield 171, 3) := by decide +kernel
theorem dX6_valueEnds_180 : decode cX6_valueEnds 180 = .ok (.goto 16, 3) := by decide +kernel
theorem dX6_valueEnds_183 : decode cX6_valueEnds 183 = .ok (.iload_n 1, 1) := by decide +kernel
theorem dX6_valueEnds_184 : decode cX6_valueEnds 184 = .ok (.bipush 7, 2) := by decide +kernel
theorem dX6_valueEnds_186 : decode cX6_valueEnds 186 = .ok (.if_icmp .ne 8, 3) := by decide +kernel
theorem dX6_valueEnds_189 : decode cX6_valueEnds 189 = .ok (.bipush 15, 2) := by decide +kernel
theorem dX6_valueEnds_191 : decode cX6_valueEnds 191 = .ok (.goto 5, 3) := by decide +kernel
theorem dX6_valueEnds_194 : decode cX6_valueEnds 194 = .ok (.bipush 16, 2) := by decide +kernel
theorem dX6_valueEnds_196 : decode cX6_valueEnds 196 = .ok (.aload_n 0, 1) := by decide +kernel
theorem dX6_valueEnds_197 : decode cX6_valueEnds 197 = .ok (.getfield 174, 3) := by decide +kernel
theorem dX6_valueEnds_200 : decode cX6_valueEnds 200 = .ok (.invokevirtual 158, 3) := by decide +kernel
theorem dX6_valueEnds_203 : decode cX6_valueEnds 203 = .ok (.pop, 1) := by decide +kernel
theorem dX6_valueEnds_204 : decode cX6_valueEnds 204 = .ok (.aload_n 0, 1) := by decide +kernel
theorem dX6_valueEnds_205 : decode cX6_valueEnds 205 = .ok (.iconst 2, 1) := by decide +kernel
theorem dX6_valueEnds_206 : decode cX6_valueEnds 206 = .ok (.putfield 143, 3) := by decide +kernel
theorem dX6_valueEnds_209 : decode cX6_valueEnds 209 = .ok (.return_, 1) := by decide +kernel
theorem dX6_argumentEnds_0 : decode cX6_argumentEnds 0 = .ok (.aload_n 0, 1) := by decide +kernel
theorem dX6_argumentEnds_1 : decode cX6_argumentEnds 1 = .ok (.invokevirtual 113, 3) := by decide +kernel
theorem dX6_argumentEnds_4 : decode cX6_argumentEnds 4 = .ok (.bipush 11, 2) := by decide +kernel
theorem dX6_argumentEnds_6 : decode cX6_argumentEnds 6 = .ok (.if_icmp .ne 28, 3) := by decide +kernel
theorem dX6_argumentEnds_9 : decode cX6_argumentEnds 9 = .ok (.aload_n 0, 1) := by decide +kernel
theorem dX6_argumentEnds_10 : decode cX6_argumentEnds 10 = .ok (.dup, 1) := by decide +kernel
theorem dX6_argumentEnds_11 : decode cX6_argumentEnds 11 = .ok (.getfield 104, 3) := by decide +kernel
theorem dX6_argumentEnds_14 : decode cX6_argumentEnds 14 = .ok (.iconst 1, 1) := by decide +kernel
theorem dX6_argumentEnds_15 : decode cX6_argumentEnds 15 = .ok (.iadd, 1) := by decide +kernel
theorem dX6_argumentEnds_16 : decode cX6_argumentEnds 16 = .ok (.putfield 104, 3) := by decide +kernel
theorem dX6_argumentEnds_19 : decode cX6_argumentEnds 19 = .ok (.aload_n 0, 1) := by decide +kernel
theorem dX6_argumentEnds_20 : decode cX6_argumentEnds 20 = .ok (.getfield 43, 3) := by decide +kernel
theorem dX6_argumentEnds_23 : decode cX6_argumentEnds 23 = .ok (.iload_n 2, 1) := by decide +kernel
theorem dX6_argumentEnds_24 : decode cX6_argumentEnds 24 = .ok (.dup2, 1) := by decide +kernel
theorem dX6_argumentEnds_25 : decode cX6_argumentEnds 25 = .ok (.iaload, 1) := by decide +kernel
theorem dX6_argumentEnds_26 : decode cX6_argumentEnds 26 = .ok (.iconst 1, 1) := by decide +kernel
theorem dX6_argumentEnds_27 : decode cX6_argumentEnds 27 = .ok (.iadd, 1) := by decide +kernel
theorem dX6_argumentEnds_28 : decode cX6_argumentEnds 28 = .ok (.iastore, 1) := by decide +kernel
theorem dX6_argumentEnds_29 : decode cX6_argumentEnds 29 = .ok (.aload_n 0, 1) := by decide +kernel
theorem dX6_argumentEnds_30 : decode cX6_argumentEnds 30 = .ok (.invokevirtual 155, 3) := by decide +kernel
theorem dX6_argumentEnds_33 : decode cX6_argumentEnds 33 = .ok (.return_, 1) := by decide +kernel
theorem dX6_argumentEnds_34 : decode cX6_argumentEnds 34 = .ok (.aload_n 0, 1) := by decide +kernel
theorem dX6_argumentEnds_35 : decode cX6_argumentEnds 35 = .ok (.bipush 7, 2) := by decide +kernel
theorem dX6_argumentEnds_37 : decode cX6_argumentEnds 37 = .ok (.invokevirtual 128, 3) := by decide +kernel
theorem dX6_argumentEnds_40 : decode cX6_argumentEnds 40 = .ok (.ifCond .ne 4, 3) := by decide +kernel
theorem dX6_argumentEnds_43 : decode cX6_argumentEnds 43 = .ok (.return_, 1) := by decide +kernel
theorem dX6_argumentEnds_44 : decode cX6_argumentEnds 44 = .ok (.aload_n 0, 1) := by decide +kernel
theorem dX6_argumentEnds_45 : decode cX6_argumentEnds 45 = .ok (.iload_n 2, 1) := by decide +kernel
theorem dX6_argumentEnds_46 : decode cX6_argumentEnds 46 = .ok (.invokevirtual 184, 3) := by decide +kernel
theorem dX6_argumentEnds_49 : decode cX6_argumentEnds 49 = .ok (.iload_n 1, 1) := by decide +kernel
theorem dX6_argumentEnds_50 : decode cX6_argumentEnds 50 = .ok (.iconst 2, 1) := by decide +kernel
theorem dX6_argumentEnds_51 : decode cX6_argumentEnds 51 = .ok (.if_icmp .ne 16, 3) := by decide +kernel
theorem dX6_argumentEnds_54 : decode cX6_argumentEnds 54 = .ok (.aload_n 0, 1) := by decide +kernel
theorem dX6_argumentEnds_55 : decode cX6_argumentEnds 55 = .ok (.dup, 1) := by decide +kernel
theorem dX6_argumentEnds_56 : decode cX6_argumentEnds 56 = .ok (.getfield 146, 3) := by decide +kernel
theorem dX6_argumentEnds_59 : decode cX6_argumentEnds 59 = .ok (.iconst 1, 1) := by decide +kernel
theorem dX6_argumentEnds_60 : decode cX6_argumentEnds 60 = .ok (.isub, 1) := by decide +kernel
theorem dX6_argumentEnds_61 : decode cX6_argumentEnds 61 = .ok (.putfield 146, 3) := by decide +kernel
theorem dX6_argumentEnds_64 : decode cX6_argumentEnds 64 = .ok (.goto 23, 3) := by decide +kernel
theorem dX6_argumentEnds_67 : decode cX6_argumentEnds 67 = .ok (.aload_n 0, 1) := by decide +kernel
theorem dX6_argumentEnds_68 : decode cX6_argumentEnds 68 = .ok (.bipush 12, 2) := by decide +kernel
theorem dX6_argumentEnds_70 : decode cX6_argumentEnds 70 = .ok (.iconst 0, 1) := by decide +kernel
theorem dX6_argumentEnds_71 : decode cX6_argumentEnds 71 = .ok (.invokevirtual 158, 3) := by decide +kernel
theorem dX6_argumentEnds_74 : decode cX6_argumentEnds 74 = .ok (.pop, 1) := by decide +kernel
theorem dX6_argumentEnds_75 : decode cX6_argumentEnds 75 = .ok (.aload_n 0, 1) := by decide +kernel
theorem dX6_argumentEnds_76 : decode cX6_argumentEnds 76 = .ok (.iconst 2, 1) := by decide +kernel
theorem dX6_argumentEnds_77 : decode cX6_argumentEnds 77 = .ok (.putfield 143, 3) := by decide +kernel
theorem dX6_argumentEnds_80 : decode cX6_argumentEnds 80 = .ok (.aload_n 0, 1) := by decide +kernel
theorem dX6_argumentEnds_81 : decode cX6_argumentEnds 81 = .ok (.bipush 10, 2) := by decide +kernel
theorem dX6_argumentEnds_83 : decode cX6_argumentEnds 83 = .ok (.invokevirtual 128, 3) := by decide +kernel
theorem dX6_argumentEnds_86 : decode cX6_argumentEnds 86 = .ok (.pop, 1) := by decide +kernel
theorem dX6_argumentEnds_87 : decode cX6_argumentEnds 87 = .ok (.return_, 1) := by decide +kernel
theorem dX6_readText_0 : decode cX6_readText 0 = .ok (.aload_n 0, 1) := by decide +kernel
theorem dX6_readText_1 : decode cX6_readText 1 = .ok (.iconst 0, 1) := by decide +kernel
theorem dX6_readText_2 : decode cX6_readText 2 = .ok (.putfield 107, 3) := by decide +kernel
theorem dX6_readText_5 : decode cX6_readText 5 = .ok (.aload_n 0, 1) := by decide +kernel
theorem dX6_readText_6 : decode cX6_readText 6 = .ok (.iconst 0, 1) := by decide +kernel
theorem dX6_readText_7 : decode cX6_readText 7 = .ok (.putfield 104, 3) := by decide +kernel
theorem dX6_readText_10 : decode cX6_readText 10 = .ok (.aload_n 0, 1) := by decide +kernel
theorem dX6_readText_11 : decode cX6_readText 11 = .ok (.iconst 0, 1) := by decide +kernel
theorem dX6_readText_12 : decode cX6_readText 12 = .ok (.putfield 143, 3) := by decide +kernel
theorem dX6_readText_15 : decode cX6_readText 15 = .ok (.aload_n 0, 1) := by decide +kernel
theorem dX6_readText_16 : decode cX6_readText 16 = .ok (.iconst 0, 1) := by decide +kernel
theorem dX6_readText_17 : decode cX6_readText 17 = .ok (.putfield 124, 3) := by decide +kernel
theorem dX6_readText_20 : decode cX6_readText 20 = .ok (.aload_n 0, 1) := by decide +kernel
theorem dX6_readText_21 : decode cX6_readText 21 = .ok (.iconst 0, 1) := by decide +kernel
theorem dX6_readText_22 : decode cX6_readText 22 = .ok (.putfield 121, 3) := by decide +kernel
theorem dX6_readText_25 : decode cX6_readText 25 = .ok (.aload_n 0, 1) := by decide +kernel
theorem dX6_readText_26 : decode cX6_readText 26 = .ok (.iconst 0, 1) := by decide +kernel
theorem dX6_readText_27 : decode cX6_readText 27 = .ok (.putfield 162, 3) := by decide +kernel
theorem dX6_readText_30 : decode cX6_readText 30 = .ok (.aload_n 0, 1) := by decide +kernel
theorem dX6_readText_31 : decode cX6_readText 31 = .ok (.iconst 0, 1) := by decide +kernel
theorem dX6_readText_32 : decode cX6_readText 32 = .ok (.putfield 140, 3) := by decide +kernel
theorem dX6_readText_35 : decode cX6_readText 35 = .ok (.iconst 0, 1) := by decide +kernel
theorem dX6_readText_36 : decode cX6_readText 36 = .ok (.istore_n 1, 1) := by decide +kernel
theorem dX6_readText_37 : decode cX6_readText 37 = .ok (.iload_n 1, 1) := by decide +kernel
theorem dX6_readText_38 : decode cX6_readText 38 = .ok (.bipush 6, 2) := by decide +kernel
theorem dX6_readText_40 : decode cX6_readText 40 = .ok (.if_icmp .ge 23, 3) := by decide +kernel
theorem dX6_readText_43 : decode cX6_readText 43 = .ok (.aload_n 0, 1) := by decide +kernel
theorem dX6_readText_44 : decode cX6_readText 44 = .ok (.getfield 25, 3) := by decide +kernel
theorem dX6_readText_47 : decode cX6_readText 47 = .ok (.iload_n 1, 1) := by decide +kernel
theorem dX6_readText_48 : decode cX6_readText 48 = .ok (.iconst (-1), 1) := by decide +kernel
theorem dX6_readText_49 : decode cX6_readText 49 = .ok (.iastore, 1) := by decide +kernel
theorem dX6_readText_50 : decode cX6_readText 50 = .ok (.aload_n 0, 1) := by decide +kernel
theorem dX6_readText_51 : decode cX6_readText 51 = .ok (.getfield 28, 3) := by decide +kernel
theorem dX6_readText_54 : decode cX6_readText 54 = .ok (.iload_n 1, 1) := by decide +kernel
theorem dX6_readText_55 : decode cX6_readText 55 = .ok (.iconst 0, 1) := by decide +kernel
theorem dX6_readText_56 : decode cX6_readText 56 = .ok (.iastore, 1) := by decide +kernel
theorem dX6_readText_57 : decode cX6_readText 57 = .ok (.iinc 1 1, 3) := by decide +kernel
theorem dX6_readText_60 : decode cX6_readText 60 = .ok (.goto (-23), 3) := by decide +kernel
theorem dX6_readText_63 : decode cX6_readText 63 = .ok (.iconst 0, 1) := by decide +kernel
theorem dX6_readText_64 : decode cX6_readText 64 = .ok (.istore_n 1, 1) := by decide +kernel
theorem dX6_readText_65 : decode cX6_readText 65 = .ok (.iload_n 1, 1) := by decide +kernel
theorem dX6_readText_66 : decode cX6_readText 66 = .ok (.sipush 2000, 3) := by decide +kernel
theorem dX6_readText_69 : decode cX6_readText 69 = .ok (.if_icmp .ge 96, 3) := by decide +kernel
theorem dX6_readText_72 : decode cX6_readText 72 = .ok (.aload_n 0, 1) := by decide +kernel
theorem dX6_readText_73 : decode cX6_readText 73 = .ok (.getfield 107, 3) := by decide +kernel
theorem dX6_readText_76 : decode cX6_readText 76 = .ok (.ifCond .ne 89, 3) := by decide +kernel
theorem dX6_readText_79 : decode cX6_readText 79 = .ok (.aload_n 0, 1) := by decide +kernel
theorem dX6_readText_80 : decode cX6_readText 80 = .ok (.getfield 124, 3) := by decide +kernel
theorem dX6_readText_83 : decode cX6_readText 83 = .ok (.ifCond .ne 82, 3) := by decide +kernel
theorem dX6_readText_86 : decode cX6_readText 86 = .ok (.aload_n 0, 1) := by decide +kernel
theorem dX6_readText_87 : decode cX6_readText 87 = .ok (.getfield 143, 3) := by decide +kernel
theorem dX6_readText_90 : decode cX6_readText 90 = .ok (.ifCond .ne 10, 3) := by decide +kernel
theorem dX6_readText_93 : decode cX6_readText 93 = .ok (.aload_n 0, 1) := by decide +kernel
theorem dX6_readText_94 : decode cX6_readText 94 = .ok (.invokevirtual 203, 3) := by decide +kernel
theorem dX6_readText_97 : decode cX6_readText 97 = .ok (.goto 62, 3) := by decide +kernel
theorem dX6_readText_100 : decode cX6_readText 100 = .ok (.aload_n 0, 1) := by decide +kernel
theorem dX6_readText_101 : decode cX6_readText 101 = .ok (.getfield 143, 3) := by decide +kernel
theorem dX6_readText_104 : decode cX6_readText 104 = .ok (.iconst 1, 1) := by decide +kernel
theorem dX6_readText_105 : decode cX6_readText 105 = .ok (.if_icmp .ne 20, 3) := by decide +kernel
theorem dX6_readText_108 : decode cX6_readText 108 = .ok (.aload_n 0, 1) := by decide +kernel
theorem dX6_readText_109 : decode cX6_readText 109 = .ok (.bipush 8, 2) := by decide +kernel
theorem dX6_readText_111 : decode cX6_readText 111 = .ok (.invokevirtual 128, 3) := by decide +kernel
theorem dX6_readText_114 : decode cX6_readText 114 = .ok (.ifCond .eq 45, 3) := by decide +kernel
theorem dX6_readText_117 : decode cX6_readText 117 = .ok (.aload_n 0, 1) := by decide +kernel
theorem dX6_readText_118 : decode cX6_readText 118 = .ok (.iconst 2, 1) := by decide +kernel
theorem dX6_readText_119 : decode cX6_readText 119 = .ok (.putfield 143, 3) := by decide +kernel
theorem dX6_readText_122 : decode cX6_readText 122 = .ok (.goto 37, 3) := by decide +kernel
theorem dX6_readText_125 : decode cX6_readText 125 = .ok (.aload_n 0, 1) := by decide +kernel
theorem dX6_readText_126 : decode cX6_readText 126 = .ok (.getfield 143, 3) := by decide +kernel
theorem dX6_readText_129 : decode cX6_readText 129 = .ok (.iconst 2, 1) := by decide +kernel
theorem dX6_readText_130 : decode cX6_readText 130 = .ok (.if_icmp .ne 10, 3) := by decide +kernel
theorem dX6_readText_133 : decode cX6_readText 133 = .ok (.aload_n 0, 1) := by decide +kernel
theorem dX6_readText_134 : decode cX6_readText 134 = .ok (.invokevirtual 206, 3) := by decide +kernel
theorem dX6_readText_137 : decode cX6_readText 137 = .ok (.goto 22, 3) := by decide +kernel
theorem dX6_readText_140 : decode cX6_readText 140 = .ok (.aload_n 0, 1) := by decide +kernel
theorem dX6_readText_141 : decode cX6_readText 141 = .ok (.getfield 143, 3) := by decide +kernel
theorem dX6_readText_144 : decode cX6_readText 144 = .ok (.iconst 3, 1) := by decide +kernel
theorem dX6_readText_145 : decode cX6_readText 145 = .ok (.if_icmp .ne 10, 3) := by decide +kernel
theorem dX6_readText_148 : decode cX6_readText 148 = .ok (.aload_n 0, 1) := by decide +kernel
theorem dX6_readText_149 : decode cX6_readText 149 = .ok (.invokevirtual 209, 3) := by decide +kernel
theorem dX6_readText_152 : decode cX6_readText 152 = .ok (.goto 7, 3) := by decide +kernel
theorem dX6_readText_155 : decode cX6_readText 155 = .ok (.aload_n 0, 1) := by decide +kernel
theorem dX6_readText_156 : decode cX6_readText 156 = .ok (.invokevirtual 212, 3) := by decide +kernel
theorem dX6_readText_159 : decode cX6_readText 159 = .ok (.iinc 1 1, 3) := by decide +kernel
theorem dX6_readText_162 : decode cX6_readText 162 = .ok (.goto (-97), 3) := by decide +kernel
theorem dX6_readText_165 : decode cX6_readText 165 = .ok (.iconst 0, 1) := by decide +kernel
theorem dX6_readText_166 : decode cX6_readText 166 = .ok (.istore_n 1, 1) := by decide +kernel
theorem dX6_readText_167 : decode cX6_readText 167 = .ok (.iload_n 1, 1) := by decide +kernel
theorem dX6_readText_168 : decode cX6_readText 168 = .ok (.aload_n 0, 1) := by decide +kernel
theorem dX6_readText_169 : decode cX6_readText 169 = .ok (.getfield 162, 3) := by decide +kernel
theorem dX6_readText_172 : decode cX6_readText 172 = .ok (.if_icmp .ge 79, 3) := by decide +kernel
theorem dX6_readText_175 : decode cX6_readText 175 = .ok (.aload_n 0, 1) := by decide +kernel
theorem dX6_readText_176 : decode cX6_readText 176 = .ok (.getfield 107, 3) := by decide +kernel
theorem dX6_readText_179 : decode cX6_readText 179 = .ok (.ifCond .ne 72, 3) := by decide +kernel
theorem dX6_readText_182 : decode cX6_readText 182 = .ok (.aload_n 0, 1) := by decide +kernel
theorem dX6_readText_183 : decode cX6_readText 183 = .ok (.getfield 25, 3) := by decide +kernel
theorem dX6_readText_186 : decode cX6_readText 186 = .ok (.aload_n 0, 1) := by decide +kernel
theorem dX6_readText_187 : decode cX6_readText 187 = .ok (.getfield 40, 3) := by decide +kernel
theorem dX6_readText_190 : decode cX6_readText 190 = .ok (.iload_n 1, 1) := by decide +kernel
theorem dX6_readText_191 : decode cX6_readText 191 = .ok (.iaload, 1) := by decide +kernel
theorem dX6_readText_192 : decode cX6_readText 192 = .ok (.iaload, 1) := by decide +kernel
theorem dX6_readText_193 : decode cX6_readText 193 = .ok (.ifCond .lt 7, 3) := by decide +kernel
theorem dX6_readText_196 : decode cX6_readText 196 = .ok (.iconst 1, 1) := by decide +kernel
theorem dX6_readText_197 : decode cX6_readText 197 = .ok (.goto 4, 3) := by decide +kernel
theorem dX6_readText_200 : decode cX6_readText 200 = .ok (.iconst 0, 1) := by decide +kernel
theorem dX6_readText_201 : decode cX6_readText 201 = .ok (.istore_n 2, 1) := by decide +kernel
theorem dX6_readText_202 : decode cX6_readText 202 = .ok (.iload_n 2, 1) := by decide +kernel
theorem dX6_readText_203 : decode cX6_readText 203 = .ok (.ifCond .eq 23, 3) := by decide +kernel
theorem dX6_readText_206 : decode cX6_readText 206 = .ok (.aload_n 0, 1) := by decide +kernel
theorem dX6_readText_207 : decode cX6_readText 207 = .ok (.getfield 28, 3) := by decide +kernel
theorem dX6_readText_210 : decode cX6_readText 210 = .ok (.aload_n 0, 1) := by decide +kernel
theorem dX6_readText_211 : decode cX6_readText 211 = .ok (.getfield 40, 3) := by decide +kernel
theorem dX6_readText_214 : decode cX6_readText 214 = .ok (.iload_n 1, 1) := by decide +kernel
theorem dX6_readText_215 : decode cX6_readText 215 = .ok (.iaload, 1) := by decide +kernel
theorem dX6_readText_216 : decode cX6_readText 216 = .ok (.iaload, 1) := by decide +kernel
theorem dX6_readText_217 : decode cX6_readText 217 = .ok (.aload_n 0, 1) := by decide +kernel
theorem dX6_readText_218 : decode cX6_readText 218 = .ok (.getfield 43, 3) := by decide +kernel
theorem dX6_readText_221 : decode cX6_readText 221 = .ok (.iload_n 1, 1) := by decide +kernel
theorem dX6_readText_222 : decode cX6_readText 222 = .ok (.iaload, 1) := by decide +kernel
theorem dX6_readText_223 : decode cX6_readText 223 = .ok (.if_icmp .eq 22, 3) := by decide +kernel
theorem dX6_readText_226 : decode cX6_readText 226 = .ok (.aload_n 0, 1) := by decide +kernel
theorem dX6_readText_227 : decode cX6_readText 227 = .ok (.iload_n 2, 1) := by decide +kernel
theorem dX6_readText_228 : decode cX6_readText 228 = .ok (.ifCond .eq 7, 3) := by decide +kernel
theorem dX6_readText_231 : decode cX6_readText 231 = .ok (.iconst 5, 1) := by decide +kernel
theorem dX6_readText_232 : decode cX6_readText 232 = .ok (.goto 4, 3) := by decide +kernel
theorem dX6_readText_235 : decode cX6_readText 235 = .ok (.iconst 4, 1) := by decide +kernel
theorem dX6_readText_236 : decode cX6_readText 236 = .ok (.aload_n 0, 1) := by decide +kernel
theorem dX6_readText_237 : decode cX6_readText 237 = .ok (.getfield 37, 3) := by decide +kernel
theorem dX6_readText_240 : decode cX6_readText 240 = .ok (.iload_n 1, 1) := by decide +kernel
theorem dX6_readText_241 : decode cX6_readText 241 = .ok (.iaload, 1) := by decide +kernel
theorem dX6_readText_242 : decode cX6_readText 242 = .ok (.invokevirtual 117, 3) := by decide +kernel
theorem dX6_readText_245 : decode cX6_readText 245 = .ok (.iinc 1 1, 3) := by decide +kernel
theorem dX6_readText_248 : decode cX6_readText 248 = .ok (.goto (-81), 3) := by decide +kernel
theorem dX6_readText_251 : decode cX6_readText 251 = .ok (.aload_n 0, 1) := by decide +kernel
theorem dX6_readText_252 : decode cX6_readText 252 = .ok (.getfield 25, 3) := by decide +kernel
theorem dX6_readText_255 : decode cX6_readText 255 = .ok (.iconst 0, 1) := by decide +kernel
theorem dX6_readText_256 : decode cX6_readText 256 = .ok (.iaload, 1) := by decide +kernel
theorem dX6_readText_257 : decode cX6_readText 257 = .ok (.ifCond .lt 12, 3) := by decide +kernel
theorem dX6_readText_260 : decode cX6_readText 260 = .ok (.aload_n 0, 1) := by decide +kernel
theorem dX6_readText_261 : decode cX6_readText 261 = .ok (.getfield 28, 3) := by decide +kernel
theorem dX6_readText_264 : decode cX6_readText 264 = .ok (.iconst 0, 1) := by decide +kernel
theorem dX6_readText_265 : decode cX6_readText 265 = .ok (.iaload, 1) := by decide +kernel
theorem dX6_readText_266 : decode cX6_readText 266 = .ok (.ifCond .le 13, 3) := by decide +kernel
theorem dX6_readText_269 : decode cX6_readText 269 = .ok (.aload_n 0, 1) := by decide +kernel
theorem dX6_readText_270 : decode cX6_readText 270 = .ok (.bipush 6, 2) := by decide +kernel
theorem dX6_readText_272 : decode cX6_readText 272 = .ok (.aload_n 0, 1) := by decide +kernel
theorem dX6_readText_273 : decode cX6_readText 273 = .ok (.getfield 101, 3) := by decide +kernel
theorem dX6_readText_276 : decode cX6_readText 276 = .ok (.invokevirtual 117, 3) := by decide +kernel
theorem dX6_readText_279 : decode cX6_readText 279 = .ok (.return_, 1) := by decide +kernel
theorem dX6_nothing_0 : decode cX6_nothing 0 = .ok (.iconst 0, 1) := by decide +kernel
theorem dX6_nothing_1 : decode cX6_nothing 1 = .ok (.istore_n 1, 1) := by decide +kernel
theorem dX6_nothing_2 : decode cX6_nothing 2 = .ok (.iload_n 1, 1) := by decide +kernel
theorem dX6_nothing_3 : decode cX6_nothing 3 = .ok (.bipush 8, 2) := by decide +kernel
theorem dX6_nothing_5 : decode cX6_nothing 5 = .ok (.if_icmp .ge 16, 3) := by decide +kernel
theorem dX6_nothing_8 : decode cX6_nothing 8 = .ok (.aload_n 0, 1) := by decide +kernel
theorem dX6_nothing_9 : decode cX6_nothing 9 = .ok (.getfield 73, 3) := by decide +kernel
theorem dX6_nothing_12 : decode cX6_nothing 12 = .ok (.iload_n 1, 1) := by decide +kernel
theorem dX6_nothing_13 : decode cX6_nothing 13 = .ok (.iconst 0, 1) := by decide +kernel
theorem dX6_nothing_14 : decode cX6_nothing 14 = .ok (.iastore, 1) := by decide +kernel
theorem dX6_nothing_15 : decode cX6_nothing 15 = .ok (.iinc 1 1, 3) := by decide +kernel
theorem dX6_nothing_18 : decode cX6_nothing 18 = .ok (.goto (-16), 3) := by decide +kernel
theorem dX6_nothing_21 : decode cX6_nothing 21 = .ok (.iconst 0, 1) := by decide +kernel
theorem dX6_nothing_22 : decode cX6_nothing 22 = .ok (.istore_n 1, 1) := by decide +kernel
theorem dX6_nothing_23 : decode cX6_nothing 23 = .ok (.iload_n 1, 1) := by decide +kernel
theorem dX6_nothing_24 : decode cX6_nothing 24 = .ok (.bipush 32, 2) := by decide +kernel
theorem dX6_nothing_26 : decode cX6_nothing 26 = .ok (.if_icmp .ge 16, 3) := by decide +kernel
theorem dX6_nothing_29 : decode cX6_nothing 29 = .ok (.aload_n 0, 1) := by decide +kernel
theorem dX6_nothing_30 : decode cX6_nothing 30 = .ok (.getfield 76, 3) := by decide +kernel
theorem dX6_nothing_33 : decode cX6_nothing 33 = .ok (.iload_n 1, 1) := by decide +kernel
theorem dX6_nothing_34 : decode cX6_nothing 34 = .ok (.iconst 0, 1) := by decide +kernel
theorem dX6_nothing_35 : decode cX6_nothing 35 = .ok (.iastore, 1) := by decide +kernel
theorem dX6_nothing_36 : decode cX6_nothing 36 = .ok (.iinc 1 1, 3) := by decide +kernel
theorem dX6_nothing_39 : decode cX6_nothing 39 = .ok (.goto (-16), 3) := by decide +kernel
theorem dX6_nothing_42 : decode cX6_nothing 42 = .ok (.aload_n 0, 1) := by decide +kernel
theorem dX6_nothing_43 : decode cX6_nothing 43 = .ok (.iconst 0, 1) := by decide +kernel
theorem dX6_nothing_44 : decode cX6_nothing 44 = .ok (.putfield 215, 3) := by decide +kernel
theorem dX6_nothing_47 : decode cX6_nothing 47 = .ok (.aload_n 0, 1) := by decide +kernel
theorem dX6_nothing_48 : decode cX6_nothing 48 = .ok (.iconst 0, 1) := by decide +kernel
theorem dX6_nothing_49 : decode cX6_nothing 49 = .ok (.putfield 218, 3) := by decide +kernel
theorem dX6_nothing_52 : decode cX6_nothing 52 = .ok (.aload_n 0, 1) := by decide +kernel
theorem dX6_nothing_53 : decode cX6_nothing 53 = .ok (.iconst 0, 1) := by decide +kernel
theorem dX6_nothing_54 : decode cX6_nothing 54 = .ok (.putfield 221, 3) := by decide +kernel
theorem dX6_nothing_57 : decode cX6_nothing 57 = .ok (.aload_n 0, 1) := by decide +kernel
theorem dX6_nothing_58 : decode cX6_nothing 58 = .ok (.iconst 0, 1) := by decide +kernel
theorem dX6_nothing_59 : decode cX6_nothing 59 = .ok (.putfield 224, 3) := by decide +kernel
theorem dX6_nothing_62 : decode cX6_nothing 62 = .ok (.return_, 1) := by decide +kernel
theorem dX6_compile_0 : decode cX6_compile 0 = .ok (.aload_n 0, 1) := by decide +kernel
theorem dX6_compile_1 : decode cX6_compile 1 = .ok (.iconst 0, 1) := by decide +kernel
theorem dX6_compile_2 : decode cX6_compile 2 = .ok (.putfield 97, 3) := by decide +kernel
theorem dX6_compile_5 : decode cX6_compile 5 = .ok (.aload_n 0, 1) := by decide +kernel
theorem dX6_compile_6 : decode cX6_compile 6 = .ok (.invokevirtual 227, 3) := by decide +kernel
theorem dX6_compile_9 : decode cX6_compile 9 = .ok (.aload_n 0, 1) := by decide +kernel
theorem dX6_compile_10 : decode cX6_compile 10 = .ok (.iconst 0, 1) := by decide +kernel
theorem dX6_compile_11 : decode cX6_compile 11 = .ok (.putfield 101, 3) := by decide +kernel
theorem dX6_compile_14 : decode cX6_compile 14 = .ok (.aload_n 0, 1) := by decide +kernel
theorem dX6_compile_15 : decode cX6_compile 15 = .ok (.getfield 107, 3) := by decide +kernel
theorem dX6_compile_18 : decode cX6_compile 18 = .ok (.ifCond .le 17, 3) := by decide +kernel
theorem dX6_compile_21 : decode cX6_compile 21 = .ok (.sipush (-1000), 3) := by decide +kernel
theorem dX6_compile_24 : decode cX6_compile 24 = .ok (.aload_n 0, 1) := by decide +kernel
theorem dX6_compile_25 : decode cX6_compile 25 = .ok (.getfield 107, 3) := by decide +kernel
theorem dX6_compile_28 : decode cX6_compile 28 = .ok (.imul, 1) := by decide +kernel
theorem dX6_compile_29 : decode cX6_compile 29 = .ok (.aload_n 0, 1) := by decide +kernel
theorem dX6_compile_30 : decode cX6_compile 30 = .ok (.getfield 110, 3) := by decide +kernel
theorem dX6_compile_33 : decode cX6_compile 33 = .ok (.isub, 1) := by decide +kernel
theorem dX6_compile_34 : decode cX6_compile 34 = .ok (.ireturn, 1) := by decide +kernel
theorem dX6_compile_35 : decode cX6_compile 35 = .ok (.aload_n 0, 1) := by decide +kernel
theorem dX6_compile_36 : decode cX6_compile 36 = .ok (.iconst 0, 1) := by decide +kernel
theorem dX6_compile_37 : decode cX6_compile 37 = .ok (.putfield 230, 3) := by decide +kernel
theorem dX6_compile_40 : decode cX6_compile 40 = .ok (.iconst 0, 1) := by decide +kernel
theorem dX6_compile_41 : decode cX6_compile 41 = .ok (.istore_n 1, 1) := by decide +kernel
theorem dX6_compile_42 : decode cX6_compile 42 = .ok (.iload_n 1, 1) := by decide +kernel
theorem dX6_compile_43 : decode cX6_compile 43 = .ok (.bipush 6, 2) := by decide +kernel
theorem dX6_compile_45 : decode cX6_compile 45 = .ok (.if_icmp .ge 56, 3) := by decide +kernel
theorem dX6_compile_48 : decode cX6_compile 48 = .ok (.aload_n 0, 1) := by decide +kernel
theorem dX6_compile_49 : decode cX6_compile 49 = .ok (.getfield 31, 3) := by decide +kernel
theorem dX6_compile_52 : decode cX6_compile 52 = .ok (.iload_n 1, 1) := by decide +kernel
theorem dX6_compile_53 : decode cX6_compile 53 = .ok (.aload_n 0, 1) := by decide +kernel
theorem dX6_compile_54 : decode cX6_compile 54 = .ok (.getfield 25, 3) := by decide +kernel
theorem dX6_compile_57 : decode cX6_compile 57 = .ok (.iload_n 1, 1) := by decide +kernel
theorem dX6_compile_58 : decode cX6_compile 58 = .ok (.iaload, 1) := by decide +kernel
theorem dX6_compile_59 : decode cX6_compile 59 = .ok (.iastore, 1) := by decide +kernel
theorem dX6_compile_60 : decode cX6_compile 60 = .ok (.aload_n 0, 1) := by decide +kernel
theorem dX6_compile_61 : decode cX6_compile 61 = .ok (.getfield 34, 3) := by decide +kernel
theorem dX6_compile_64 : decode cX6_compile 64 = .ok (.iload_n 1, 1) := by decide +kernel
theorem dX6_compile_65 : decode cX6_compile 65 = .ok (.aload_n 0, 1) := by decide +kernel
theorem dX6_compile_66 : decode cX6_compile 66 = .ok (.getfield 28, 3) := by decide +kernel
theorem dX6_compile_69 : decode cX6_compile 69 = .ok (.iload_n 1, 1) := by decide +kernel
theorem dX6_compile_70 : decode cX6_compile 70 = .ok (.iaload, 1) := by decide +kernel
theorem dX6_compile_71 : decode cX6_compile 71 = .ok (.iastore, 1) := by decide +kernel
theorem dX6_compile_72 : decode cX6_compile 72 = .ok (.aload_n 0, 1) := by decide +kernel
theorem dX6_compile_73 : decode cX6_compile 73 = .ok (.dup, 1) := by decide +kernel
theorem dX6_compile_74 : decode cX6_compile 74 = .ok (.getfield 230, 3) := by decide +kernel
theorem dX6_compile_77 : decode cX6_compile 77 = .ok (.aload_n 0, 1) := by decide +kernel
theorem dX6_compile_78 : decode cX6_compile 78 = .ok (.getfield 31, 3) := by decide +kernel
theorem dX6_compile_81 : decode cX6_compile 81 = .ok (.iload_n 1, 1) := by decide +kernel
theorem dX6_compile_82 : decode cX6_compile 82 = .ok (.iaload, 1) := by decide +kernel
theorem dX6_compile_83 : decode cX6_compile 83 = .ok (.ifCond .lt 7, 3) := by decide +kernel
theorem dX6_compile_86 : decode cX6_compile 86 = .ok (.iconst 1, 1) := by decide +kernel
theorem dX6_compile_87 : decode cX6_compile 87 = .ok (.goto 4, 3) := by decide +kernel
theorem dX6_compile_90 : decode cX6_compile 90 = .ok (.iconst 0, 1) := by decide +kernel
theorem dX6_compile_91 : decode cX6_compile 91 = .ok (.iadd, 1) := by decide +kernel
theorem dX6_compile_92 : decode cX6_compile 92 = .ok (.putfield 230, 3) := by decide +kernel
theorem dX6_compile_95 : decode cX6_compile 95 = .ok (.iinc 1 1, 3) := by decide +kernel
theorem dX6_compile_98 : decode cX6_compile 98 = .ok (.goto (-56), 3) := by decide +kernel
theorem dX6_compile_101 : decode cX6_compile 101 = .ok (.iconst 0, 1) := by decide +kernel
theorem dX6_compile_102 : decode cX6_compile 102 = .ok (.istore_n 1, 1) := by decide +kernel
theorem dX6_compile_103 : decode cX6_compile 103 = .ok (.iload_n 1, 1) := by decide +kernel
theorem dX6_compile_104 : decode cX6_compile 104 = .ok (.aload_n 0, 1) := by decide +kernel
theorem dX6_compile_105 : decode cX6_compile 105 = .ok (.getfield 121, 3) := by decide +kernel
theorem dX6_compile_108 : decode cX6_compile 108 = .ok (.if_icmp .ge 58, 3) := by decide +kernel
theorem dX6_compile_111 : decode cX6_compile 111 = .ok (.aload_n 0, 1) := by decide +kernel
theorem dX6_compile_112 : decode cX6_compile 112 = .ok (.getfield 19, 3) := by decide +kernel
theorem dX6_compile_115 : decode cX6_compile 115 = .ok (.iload_n 1, 1) := by decide +kernel
theorem dX6_compile_116 : decode cX6_compile 116 = .ok (.aload_n 0, 1) := by decide +kernel
theorem dX6_compile_117 : decode cX6_compile 117 = .ok (.getfield 13, 3) := by decide +kernel
theorem dX6_compile_120 : decode cX6_compile 120 = .ok (.iload_n 1, 1) := by decide +kernel
theorem dX6_compile_121 : decode cX6_compile 121 = .ok (.iaload, 1) := by decide +kernel
theorem dX6_compile_122 : decode cX6_compile 122 = .ok (.iastore, 1) := by decide +kernel
theorem dX6_compile_123 : decode cX6_compile 123 = .ok (.aload_n 0, 1) := by decide +kernel
theorem dX6_compile_124 : decode cX6_compile 124 = .ok (.getfield 22, 3) := by decide +kernel
theorem dX6_compile_127 : decode cX6_compile 127 = .ok (.iload_n 1, 1) := by decide +kernel
theorem dX6_compile_128 : decode cX6_compile 128 = .ok (.aload_n 0, 1) := by decide +kernel
theorem dX6_compile_129 : decode cX6_compile 129 = .ok (.getfield 13, 3) := by decide +kernel
theorem dX6_compile_132 : decode cX6_compile 132 = .ok (.iload_n 1, 1) := by decide +kernel
theorem dX6_compile_133 : decode cX6_compile 133 = .ok (.iaload, 1) := by decide +kernel
theorem dX6_compile_134 : decode cX6_compile 134 = .ok (.bipush 7, 2) := by decide +kernel
theorem dX6_compile_136 : decode cX6_compile 136 = .ok (.if_icmp .ne 17, 3) := by decide +kernel
theorem dX6_compile_139 : decode cX6_compile 139 = .ok (.aload_n 0, 1) := by decide +kernel
theorem dX6_compile_140 : decode cX6_compile 140 = .ok (.getfield 40, 3) := by decide +kernel
theorem dX6_compile_143 : decode cX6_compile 143 = .ok (.aload_n 0, 1) := by decide +kernel
theorem dX6_compile_144 : decode cX6_compile 144 = .ok (.getfield 16, 3) := by decide +kernel
theorem dX6_compile_147 : decode cX6_compile 147 = .ok (.iload_n 1, 1) := by decide +kernel
theorem dX6_compile_148 : decode cX6_compile 148 = .ok (.iaload, 1) := by decide +kernel
theorem dX6_compile_149 : decode cX6_compile 149 = .ok (.iaload, 1) := by decide +kernel
theorem dX6_compile_150 : decode cX6_compile 150 = .ok (.goto 9, 3) := by decide +kernel
theorem dX6_compile_153 : decode cX6_compile 153 = .ok (.aload_n 0, 1) := by decide +kernel
theorem dX6_compile_154 : decode cX6_compile 154 = .ok (.getfield 16, 3) := by decide +kernel
theorem dX6_compile_157 : decode cX6_compile 157 = .ok (.iload_n 1, 1) := by decide +kernel
theorem dX6_compile_158 : decode cX6_compile 158 = .ok (.iaload, 1) := by decide +kernel
theorem dX6_compile_159 : decode cX6_compile 159 = .ok (.iastore, 1) := by decide +kernel
theorem dX6_compile_160 : decode cX6_compile 160 = .ok (.iinc 1 1, 3) := by decide +kernel
theorem dX6_compile_163 : decode cX6_compile 163 = .ok (.goto (-60), 3) := by decide +kernel
theorem dX6_compile_166 : decode cX6_compile 166 = .ok (.aload_n 0, 1) := by decide +kernel
theorem dX6_compile_167 : decode cX6_compile 167 = .ok (.iconst 0, 1) := by decide +kernel
theorem dX6_compile_168 : decode cX6_compile 168 = .ok (.putfield 233, 3) := by decide +kernel
theorem dX6_compile_171 : decode cX6_compile 171 = .ok (.aload_n 0, 1) := by decide +kernel
theorem dX6_compile_172 : decode cX6_compile 172 = .ok (.invokevirtual 236, 3) := by decide +kernel
theorem dX6_compile_175 : decode cX6_compile 175 = .ok (.aload_n 0, 1) := by decide +kernel
theorem dX6_compile_176 : decode cX6_compile 176 = .ok (.getfield 230, 3) := by decide +kernel
theorem dX6_compile_179 : decode cX6_compile 179 = .ok (.ireturn, 1) := by decide +kernel
theorem dX6_enter_0 : decode cX6_enter 0 = .ok (.aload_n 0, 1) := by decide +kernel
theorem dX6_enter_1 : decode cX6_enter 1 = .ok (.getfield 88, 3) := by decide +kernel
theorem dX6_enter_4 : decode cX6_enter 4 = .ok (.aload_n 0, 1) := by decide +kernel
theorem dX6_enter_5 : decode cX6_enter 5 = .ok (.getfield 221, 3) := by decide +kernel
theorem dX6_enter_8 : decode cX6_enter 8 = .ok (.iload_n 2, 1) := by decide +kernel
theorem dX6_enter_9 : decode cX6_enter 9 = .ok (.iastore, 1) := by decide +kernel
theorem dX6_enter_10 : decode cX6_enter 10 = .ok (.aload_n 0, 1) := by decide +kernel
theorem dX6_enter_11 : decode cX6_enter 11 = .ok (.getfield 91, 3) := by decide +kernel
theorem dX6_enter_14 : decode cX6_enter 14 = .ok (.aload_n 0, 1) := by decide +kernel
theorem dX6_enter_15 : decode cX6_enter 15 = .ok (.getfield 221, 3) := by decide +kernel
theorem dX6_enter_18 : decode cX6_enter 18 = .ok (.aload_n 0, 1) := by decide +kernel
theorem dX6_enter_19 : decode cX6_enter 19 = .ok (.getfield 224, 3) := by decide +kernel
theorem dX6_enter_22 : decode cX6_enter 22 = .ok (.iastore, 1) := by decide +kernel
theorem dX6_enter_23 : decode cX6_enter 23 = .ok (.iconst 0, 1) := by decide +kernel
theorem dX6_enter_24 : decode cX6_enter 24 = .ok (.istore_n 3, 1) := by decide +kernel
theorem dX6_enter_25 : decode cX6_enter 25 = .ok (.iload_n 3, 1) := by decide +kernel
theorem dX6_enter_26 : decode cX6_enter 26 = .ok (.bipush 8, 2) := by decide +kernel
theorem dX6_enter_28 : decode cX6_enter 28 = .ok (.if_icmp .ge 24, 3) := by decide +kernel
theorem dX6_enter_31 : decode cX6_enter 31 = .ok (.aload_n 0, 1) := by decide +kernel
theorem dX6_enter_32 : decode cX6_enter 32 = .ok (.getfield 85, 3) := by decide +kernel
theorem dX6_enter_35 : decode cX6_enter 35 = .ok (.bipush 8, 2) := by decide +kernel
theorem dX6_enter_37 : decode cX6_enter 37 = .ok (.aload_n 0, 1) := by decide +kernel
theorem dX6_enter_38 : decode cX6_enter 38 = .ok (.getfield 221, 3) := by decide +kernel
theorem dX6_enter_41 : decode cX6_enter 41 = .ok (.imul, 1) := by decide +kernel
theorem dX6_enter_42 : decode cX6_enter 42 = .ok (.iload_n 3, 1) := by decide +kernel
theorem dX6_enter_43 : decode cX6_enter 43 = .ok (.iadd, 1) := by decide +kernel
theorem dX6_enter_44 : decode cX6_enter 44 = .ok (.iconst 0, 1) := by decide +kernel
theorem dX6_enter_45 : decode cX6_enter 45 = .ok (.iastore, 1) := by decide +kernel
theorem dX6_enter_46 : decode cX6_enter 46 = .ok (.iinc 3 1, 3) := by decide +kernel
theorem dX6_enter_49 : decode cX6_enter 49 = .ok (.goto (-24), 3) := by decide +kernel
theorem dX6_enter_52 : decode cX6_enter 52 = .ok (.aload_n 0, 1) := by decide +kernel
theorem dX6_enter_53 : decode cX6_enter 53 = .ok (.dup, 1) := by decide +kernel
theorem dX6_enter_54 : decode cX6_enter 54 = .ok (.getfield 221, 3) := by decide +kernel
theorem dX6_enter_57 : decode cX6_enter 57 = .ok (.iconst 1, 1) := by decide +kernel
theorem dX6_enter_58 : decode cX6_enter 58 = .ok (.iadd, 1) := by decide +kernel
theorem dX6_enter_59 : decode cX6_enter 59 = .ok (.putfield 221, 3) := by decide +kernel
theorem dX6_enter_62 : decode cX6_enter 62 = .ok (.aload_n 0, 1) := by decide +kernel
theorem dX6_enter_63 : decode cX6_enter 63 = .ok (.aload_n 0, 1) := by decide +kernel
theorem dX6_enter_64 : decode cX6_enter 64 = .ok (.getfield 31, 3) := by decide +kernel
theorem dX6_enter_67 : decode cX6_enter 67 = .ok (.iload_n 1, 1) := by decide +kernel
theorem dX6_enter_68 : decode cX6_enter 68 = .ok (.iaload, 1) := by decide +kernel
theorem dX6_enter_69 : decode cX6_enter 69 = .ok (.putfield 239, 3) := by decide +kernel
theorem dX6_enter_72 : decode cX6_enter 72 = .ok (.return_, 1) := by decide +kernel
theorem dX6_start_0 : decode cX6_start 0 = .ok (.aload_n 0, 1) := by decide +kernel
theorem dX6_start_1 : decode cX6_start 1 = .ok (.aload_n 0, 1) := by decide +kernel
theorem dX6_start_2 : decode cX6_start 2 = .ok (.getfield 230, 3) := by decide +kernel
theorem dX6_start_5 : decode cX6_start 5 = .ok (.ifCond .ne 7, 3) := by decide +kernel
theorem dX6_start_8 : decode cX6_start 8 = .ok (.iconst 1, 1) := by decide +kernel
theorem dX6_start_9 : decode cX6_start 9 = .ok (.goto 4, 3) := by decide +kernel
theorem dX6_start_12 : decode cX6_start 12 = .ok (.iconst 0, 1) := by decide +kernel
theorem dX6_start_13 : decode cX6_start 13 = .ok (.putfield 97, 3) := by decide +kernel
theorem dX6_start_16 : decode cX6_start 16 = .ok (.aload_n 0, 1) := by decide +kernel
theorem dX6_start_17 : decode cX6_start 17 = .ok (.getfield 97, 3) := by decide +kernel
theorem dX6_start_20 : decode cX6_start 20 = .ok (.ifCond .le 5, 3) := by decide +kernel
theorem dX6_start_23 : decode cX6_start 23 = .ok (.iconst 0, 1) := by decide +kernel
theorem dX6_start_24 : decode cX6_start 24 = .ok (.ireturn, 1) := by decide +kernel
theorem dX6_start_25 : decode cX6_start 25 = .ok (.aload_n 0, 1) := by decide +kernel
theorem dX6_start_26 : decode cX6_start 26 = .ok (.invokevirtual 236, 3) := by decide +kernel
theorem dX6_start_29 : decode cX6_start 29 = .ok (.aload_n 0, 1) := by decide +kernel
theorem dX6_start_30 : decode cX6_start 30 = .ok (.iconst 0, 1) := by decide +kernel
theorem dX6_start_31 : decode cX6_start 31 = .ok (.iconst 0, 1) := by decide +kernel
theorem dX6_start_32 : decode cX6_start 32 = .ok (.invokevirtual 242, 3) := by decide +kernel
theorem dX6_start_35 : decode cX6_start 35 = .ok (.aload_n 0, 1) := by decide +kernel
theorem dX6_start_36 : decode cX6_start 36 = .ok (.iconst 1, 1) := by decide +kernel
theorem dX6_start_37 : decode cX6_start 37 = .ok (.putfield 233, 3) := by decide +kernel
theorem dX6_start_40 : decode cX6_start 40 = .ok (.iconst 1, 1) := by decide +kernel
theorem dX6_start_41 : decode cX6_start 41 = .ok (.ireturn, 1) := by decide +kernel
theorem dX6_key_0 : decode cX6_key 0 = .ok (.aload_n 0, 1) := by decide +kernel
theorem dX6_key_1 : decode cX6_key 1 = .ok (.iload_n 1, 1) := by decide +kernel
theorem dX6_key_2 : decode cX6_key 2 = .ok (.sipush (-32768), 3) := by decide +kernel
theorem dX6_key_5 : decode cX6_key 5 = .ok (.if_icmp .lt 10, 3) := by decide +kernel
theorem dX6_key_8 : decode cX6_key 8 = .ok (.iload_n 1, 1) := by decide +kernel
theorem dX6_key_9 : decode cX6_key 9 = .ok (.sipush 32767, 3) := by decide +kernel
theorem dX6_key_12 : decode cX6_key 12 = .ok (.if_icmp .le 7, 3) := by decide +kernel
theorem dX6_key_15 : decode cX6_key 15 = .ok (.iconst 1, 1) := by decide +kernel
theorem dX6_key_16 : decode cX6_key 16 = .ok (.goto 17, 3) := by decide +kernel
theorem dX6_key_19 : decode cX6_key 19 = .ok (.aload_n 0, 1) := by decide +kernel
theorem dX6_key_20 : decode cX6_key 20 = .ok (.getfield 245, 3) := by decide +kernel
theorem dX6_key_23 : decode cX6_key 23 = .ok (.bipush 8, 2) := by decide +kernel
theorem dX6_key_25 : decode cX6_key 25 = .ok (.if_icmp .ne 7, 3) := by decide +kernel
theorem dX6_key_28 : decode cX6_key 28 = .ok (.iconst 2, 1) := by decide +kernel
theorem dX6_key_29 : decode cX6_key 29 = .ok (.goto 4, 3) := by decide +kernel
theorem dX6_key_32 : decode cX6_key 32 = .ok (.iconst 0, 1) := by decide +kernel
theorem dX6_key_33 : decode cX6_key 33 = .ok (.putfield 97, 3) := by decide +kernel
theorem dX6_key_36 : decode cX6_key 36 = .ok (.aload_n 0, 1) := by decide +kernel
theorem dX6_key_37 : decode cX6_key 37 = .ok (.getfield 97, 3) := by decide +kernel
theorem dX6_key_40 : decode cX6_key 40 = .ok (.ifCond .ne 23, 3) := by decide +kernel
theorem dX6_key_43 : decode cX6_key 43 = .ok (.aload_n 0, 1) := by decide +kernel
theorem dX6_key_44 : decode cX6_key 44 = .ok (.getfield 79, 3) := by decide +kernel
theorem dX6_key_47 : decode cX6_key 47 = .ok (.aload_n 0, 1) := by decide +kernel
theorem dX6_key_48 : decode cX6_key 48 = .ok (.getfield 245, 3) := by decide +kernel
theorem dX6_key_51 : decode cX6_key 51 = .ok (.iload_n 1, 1) := by decide +kernel
theorem dX6_key_52 : decode cX6_key 52 = .ok (.iastore, 1) := by decide +kernel
theorem dX6_key_53 : decode cX6_key 53 = .ok (.aload_n 0, 1) := by decide +kernel
theorem dX6_key_54 : decode cX6_key 54 = .ok (.dup, 1) := by decide +kernel
theorem dX6_key_55 : decode cX6_key 55 = .ok (.getfield 245, 3) := by decide +kernel
theorem dX6_key_58 : decode cX6_key 58 = .ok (.iconst 1, 1) := by decide +kernel
theorem dX6_key_59 : decode cX6_key 59 = .ok (.iadd, 1) := by decide +kernel
theorem dX6_key_60 : decode cX6_key 60 = .ok (.putfield 245, 3) := by decide +kernel
theorem dX6_key_63 : decode cX6_key 63 = .ok (.aload_n 0, 1) := by decide +kernel
theorem dX6_key_64 : decode cX6_key 64 = .ok (.getfield 245, 3) := by decide +kernel
theorem dX6_key_67 : decode cX6_key 67 = .ok (.ireturn, 1) := by decide +kernel
theorem dX6_wrap_0 : decode cX6_wrap 0 = .ok (.iload_n 0, 1) := by decide +kernel
theorem dX6_wrap_1 : decode cX6_wrap 1 = .ok (.bipush 16, 2) := by decide +kernel
theorem dX6_wrap_3 : decode cX6_wrap 3 = .ok (.ishl, 1) := by decide +kernel
theorem dX6_wrap_4 : decode cX6_wrap 4 = .ok (.bipush 16, 2) := by decide +kernel
theorem dX6_wrap_6 : decode cX6_wrap 6 = .ok (.ishr, 1) := by decide +kernel
theorem dX6_wrap_7 : decode cX6_wrap 7 = .ok (.ireturn, 1) := by decide +kernel
theorem dX6_push_0 : decode cX6_push 0 = .ok (.aload_n 0, 1) := by decide +kernel
theorem dX6_push_1 : decode cX6_push 1 = .ok (.getfield 94, 3) := by decide +kernel
theorem dX6_push_4 : decode cX6_push 4 = .ok (.aload_n 0, 1) := by decide +kernel
theorem dX6_push_5 : decode cX6_push 5 = .ok (.getfield 224, 3) := by decide +kernel
theorem dX6_push_8 : decode cX6_push 8 = .ok (.iload_n 1, 1) := by decide +kernel
theorem dX6_push_9 : decode cX6_push 9 = .ok (.invokestatic 248, 3) := by decide +kernel
theorem dX6_push_12 : decode cX6_push 12 = .ok (.iastore, 1) := by decide +kernel
theorem dX6_push_13 : decode cX6_push 13 = .ok (.aload_n 0, 1) := by decide +kernel
theorem dX6_push_14 : decode cX6_push 14 = .ok (.dup, 1) := by decide +kernel
theorem dX6_push_15 : decode cX6_push 15 = .ok (.getfield 224, 3) := by decide +kernel
theorem dX6_push_18 : decode cX6_push 18 = .ok (.iconst 1, 1) := by decide +kernel
theorem dX6_push_19 : decode cX6_push 19 = .ok (.iadd, 1) := by decide +kernel
theorem dX6_push_20 : decode cX6_push 20 = .ok (.putfield 224, 3) := by decide +kernel
theorem dX6_push_23 : decode cX6_push 23 = .ok (.return_, 1) := by decide +kernel
theorem dX6_pop_0 : decode cX6_pop 0 = .ok (.aload_n 0, 1) := by decide +kernel
theorem dX6_pop_1 : decode cX6_pop 1 = .ok (.dup, 1) := by decide +kernel
theorem dX6_pop_2 : decode cX6_pop 2 = .ok (.getfield 224, 3) := by decide +kernel
theorem dX6_pop_5 : decode cX6_pop 5 = .ok (.iconst 1, 1) := by decide +kernel
theorem dX6_pop_6 : decode cX6_pop 6 = .ok (.isub, 1) := by decide +kernel
theorem dX6_pop_7 : decode cX6_pop 7 = .ok (.putfield 224, 3) := by decide +kernel
theorem dX6_pop_10 : decode cX6_pop 10 = .ok (.aload_n 0, 1) := by decide +kernel
theorem dX6_pop_11 : decode cX6_pop 11 = .ok (.getfield 94, 3) := by decide +kernel
theorem dX6_pop_14 : decode cX6_pop 14 = .ok (.aload_n 0, 1) := by decide +kernel
theorem dX6_pop_15 : decode cX6_pop 15 = .ok (.getfield 224, 3) := by decide +kernel
theorem dX6_pop_18 : decode cX6_pop 18 = .ok (.iaload, 1) := by decide +kernel
theorem dX6_pop_19 : decode cX6_pop 19 = .ok (.ireturn, 1) := by decide +kernel
theorem dX6_reads_0 : decode cX6_reads 0 = .ok (.aload_n 0, 1) := by decide +kernel
theorem dX6_reads_1 : decode cX6_reads 1 = .ok (.getfield 245, 3) := by decide +kernel
theorem dX6_reads_4 : decode cX6_reads 4 = .ok (.ifCond .ne 19, 3) := by decide +kernel
theorem dX6_reads_7 : decode cX6_reads 7 = .ok (.aload_n 0, 1) := by decide +kernel
theorem dX6_reads_8 : decode cX6_reads 8 = .ok (.iconst 2, 1) := by decide +kernel
theorem dX6_reads_9 : decode cX6_reads 9 = .ok (.putfield 233, 3) := by decide +kernel
theorem dX6_reads_12 : decode cX6_reads 12 = .ok (.aload_n 0, 1) := by decide +kernel
theorem dX6_reads_13 : decode cX6_reads 13 = .ok (.dup, 1) := by decide +kernel
theorem dX6_reads_14 : decode cX6_reads 14 = .ok (.getfield 239, 3) := by decide +kernel
theorem dX6_reads_17 : decode cX6_reads 17 = .ok (.iconst 1, 1) := by decide +kernel
theorem dX6_reads_18 : decode cX6_reads 18 = .ok (.isub, 1) := by decide +kernel
theorem dX6_reads_19 : decode cX6_reads 19 = .ok (.putfield 239, 3) := by decide +kernel
theorem dX6_reads_22 : decode cX6_reads 22 = .ok (.return_, 1) := by decide +kernel
theorem dX6_reads_23 : decode cX6_reads 23 = .ok (.aload_n 0, 1) := by decide +kernel
theorem dX6_reads_24 : decode cX6_reads 24 = .ok (.aload_n 0, 1) := by decide +kernel
theorem dX6_reads_25 : decode cX6_reads 25 = .ok (.getfield 79, 3) := by decide +kernel
theorem dX6_reads_28 : decode cX6_reads 28 = .ok (.iconst 0, 1) := by decide +kernel
theorem dX6_reads_29 : decode cX6_reads 29 = .ok (.iaload, 1) := by decide +kernel
theorem dX6_reads_30 : decode cX6_reads 30 = .ok (.invokevirtual 251, 3) := by decide +kernel
theorem dX6_reads_33 : decode cX6_reads 33 = .ok (.aload_n 0, 1) := by decide +kernel
theorem dX6_reads_34 : decode cX6_reads 34 = .ok (.dup, 1) := by decide +kernel
theorem dX6_reads_35 : decode cX6_reads 35 = .ok (.getfield 245, 3) := by decide +kernel
theorem dX6_reads_38 : decode cX6_reads 38 = .ok (.iconst 1, 1) := by decide +kernel
theorem dX6_reads_39 : decode cX6_reads 39 = .ok (.isub, 1) := by decide +kernel
theorem dX6_reads_40 : decode cX6_reads 40 = .ok (.putfield 245, 3) := by decide +kernel
theorem dX6_reads_43 : decode cX6_reads 43 = .ok (.iconst 0, 1) := by decide +kernel
theorem dX6_reads_44 : decode cX6_reads 44 = .ok (.istore_n 1, 1) := by decide +kernel
theorem dX6_reads_45 : decode cX6_reads 45 = .ok (.iload_n 1, 1) := by decide +kernel
theorem dX6_reads_46 : decode cX6_reads 46 = .ok (.aload_n 0, 1) := by decide +kernel
theorem dX6_reads_47 : decode cX6_reads 47 = .ok (.getfield 245, 3) := by decide +kernel
theorem dX6_reads_50 : decode cX6_reads 50 = .ok (.if_icmp .ge 23, 3) := by decide +kernel
theorem dX6_reads_53 : decode cX6_reads 53 = .ok (.aload_n 0, 1) := by decide +kernel
theorem dX6_reads_54 : decode cX6_reads 54 = .ok (.getfield 79, 3) := by decide +kernel
theorem dX6_reads_57 : decode cX6_reads 57 = .ok (.iload_n 1, 1) := by decide +kernel
theorem dX6_reads_58 : decode cX6_reads 58 = .ok (.aload_n 0, 1) := by decide +kernel
theorem dX6_reads_59 : decode cX6_reads 59 = .ok (.getfield 79, 3) := by decide +kernel
theorem dX6_reads_62 : decode cX6_reads 62 = .ok (.iload_n 1, 1) := by decide +kernel
theorem dX6_reads_63 : decode cX6_reads 63 = .ok (.iconst 1, 1) := by decide +kernel
theorem dX6_reads_64 : decode cX6_reads 64 = .ok (.iadd, 1) := by decide +kernel
theorem dX6_reads_65 : decode cX6_reads 65 = .ok (.iaload, 1) := by decide +kernel
theorem dX6_reads_66 : decode cX6_reads 66 = .ok (.iastore, 1) := by decide +kernel
theorem dX6_reads_67 : decode cX6_reads 67 = .ok (.iinc 1 1, 3) := by decide +kernel
theorem dX6_reads_70 : decode cX6_reads 70 = .ok (.goto (-25), 3) := by decide +kernel
theorem dX6_reads_73 : decode cX6_reads 73 = .ok (.return_, 1) := by decide +kernel
theorem dX6_operates_0 : decode cX6_operates 0 = .ok (.aload_n 0, 1) := by decide +kernel
theorem dX6_operates_1 : decode cX6_operates 1 = .ok (.invokevirtual 254, 3) := by decide +kernel
theorem dX6_operates_4 : decode cX6_operates 4 = .ok (.istore_n 2, 1) := by decide +kernel
theorem dX6_operates_5 : decode cX6_operates 5 = .ok (.aload_n 0, 1) := by decide +kernel
theorem dX6_operates_6 : decode cX6_operates 6 = .ok (.invokevirtual 254, 3) := by decide +kernel
theorem dX6_operates_9 : decode cX6_operates 9 = .ok (.istore_n 3, 1) := by decide +kernel
theorem dX6_operates_10 : decode cX6_operates 10 = .ok (.iload_n 1, 1) := by decide +kernel
theorem dX6_operates_11 : decode cX6_operates 11 = .ok (.bipush 16, 2) := by decide +kernel
theorem dX6_operates_13 : decode cX6_operates 13 = .ok (.if_icmp .eq 9, 3) := by decide +kernel
theorem dX6_operates_16 : decode cX6_operates 16 = .ok (.iload_n 1, 1) := by decide +kernel
theorem dX6_operates_17 : decode cX6_operates 17 = .ok (.bipush 17, 2) := by decide +kernel
theorem dX6_operates_19 : decode cX6_operates 19 = .ok (.if_icmp .ne 13, 3) := by decide +kernel
theorem dX6_operates_22 : decode cX6_operates 22 = .ok (.iload_n 2, 1) := by decide +kernel
theorem dX6_operates_23 : decode cX6_operates 23 = .ok (.ifCond .ne 9, 3) := by decide +kernel
theorem dX6_operates_26 : decode cX6_operates 26 = .ok (.aload_n 0, 1) := by decide +kernel
theorem dX6_operates_27 : decode cX6_operates 27 = .ok (.iconst 4, 1) := by decide +kernel
theorem dX6_operates_28 : decode cX6_operates 28 = .ok (.putfield 233, 3) := by decide +kernel
theorem dX6_operates_31 : decode cX6_operates 31 = .ok (.return_, 1) := by decide +kernel
theorem dX6_operates_32 : decode cX6_operates 32 = .ok (.aload_n 0, 1) := by decide +kernel
theorem dX6_operates_33 : decode cX6_operates 33 = .ok (.iload_n 1, 1) := by decide +kernel
theorem dX6_operates_34 : decode cX6_operates 34 = .ok (.bipush 13, 2) := by decide +kernel
theorem dX6_operates_36 : decode cX6_operates 36 = .ok (.if_icmp .ne 9, 3) := by decide +kernel
theorem dX6_operates_39 : decode cX6_operates 39 = .ok (.iload_n 3, 1) := by decide +kernel
theorem dX6_operates_40 : decode cX6_operates 40 = .ok (.iload_n 2, 1) := by decide +kernel
theorem dX6_operates_41 : decode cX6_operates 41 = .ok (.iadd, 1) := by decide +kernel
theorem dX6_operates_42 : decode cX6_operates 42 = .ok (.goto 80, 3) := by decide +kernel
theorem dX6_operates_45 : decode cX6_operates 45 = .ok (.iload_n 1, 1) := by decide +kernel
theorem dX6_operates_46 : decode cX6_operates 46 = .ok (.bipush 14, 2) := by decide +kernel
theorem dX6_operates_48 : decode cX6_operates 48 = .ok (.if_icmp .ne 9, 3) := by decide +kernel
theorem dX6_operates_51 : decode cX6_operates 51 = .ok (.iload_n 3, 1) := by decide +kernel
theorem dX6_operates_52 : decode cX6_operates 52 = .ok (.iload_n 2, 1) := by decide +kernel
theorem dX6_operates_53 : decode cX6_operates 53 = .ok (.isub, 1) := by decide +kernel
theorem dX6_operates_54 : decode cX6_operates 54 = .ok (.goto 68, 3) := by decide +kernel
theorem dX6_operates_57 : decode cX6_operates 57 = .ok (.iload_n 1, 1) := by decide +kernel
theorem dX6_operates_58 : decode cX6_operates 58 = .ok (.bipush 15, 2) := by decide +kernel
theorem dX6_operates_60 : decode cX6_operates 60 = .ok (.if_icmp .ne 9, 3) := by decide +kernel
theorem dX6_operates_63 : decode cX6_operates 63 = .ok (.iload_n 3, 1) := by decide +kernel
theorem dX6_operates_64 : decode cX6_operates 64 = .ok (.iload_n 2, 1) := by decide +kernel
theorem dX6_operates_65 : decode cX6_operates 65 = .ok (.imul, 1) := by decide +kernel
theorem dX6_operates_66 : decode cX6_operates 66 = .ok (.goto 56, 3) := by decide +kernel
theorem dX6_operates_69 : decode cX6_operates 69 = .ok (.iload_n 1, 1) := by decide +kernel
theorem dX6_operates_70 : decode cX6_operates 70 = .ok (.bipush 16, 2) := by decide +kernel
theorem dX6_operates_72 : decode cX6_operates 72 = .ok (.if_icmp .ne 9, 3) := by decide +kernel
theorem dX6_operates_75 : decode cX6_operates 75 = .ok (.iload_n 3, 1) := by decide +kernel
theorem dX6_operates_76 : decode cX6_operates 76 = .ok (.iload_n 2, 1) := by decide +kernel
theorem dX6_operates_77 : decode cX6_operates 77 = .ok (.idiv, 1) := by decide +kernel
theorem dX6_operates_78 : decode cX6_operates 78 = .ok (.goto 44, 3) := by decide +kernel
theorem dX6_operates_81 : decode cX6_operates 81 = .ok (.iload_n 1, 1) := by decide +kernel
theorem dX6_operates_82 : decode cX6_operates 82 = .ok (.bipush 17, 2) := by decide +kernel
theorem dX6_operates_84 : decode cX6_operates 84 = .ok (.if_icmp .ne 9, 3) := by decide +kernel
theorem dX6_operates_87 : decode cX6_operates 87 = .ok (.iload_n 3, 1) := by decide +kernel
theorem dX6_operates_88 : decode cX6_operates 88 = .ok (.iload_n 2, 1) := by decide +kernel
theorem dX6_operates_89 : decode cX6_operates 89 = .ok (.irem, 1) := by decide +kernel
theorem dX6_operates_90 : decode cX6_operates 90 = .ok (.goto 32, 3) := by decide +kernel
theorem dX6_operates_93 : decode cX6_operates 93 = .ok (.iload_n 1, 1) := by decide +kernel
theorem dX6_operates_94 : decode cX6_operates 94 = .ok (.bipush 18, 2) := by decide +kernel
theorem dX6_operates_96 : decode cX6_operates 96 = .ok (.if_icmp .ne 16, 3) := by decide +kernel
theorem dX6_operates_99 : decode cX6_operates 99 = .ok (.iload_n 3, 1) := by decide +kernel
theorem dX6_operates_100 : decode cX6_operates 100 = .ok (.iload_n 2, 1) := by decide +kernel
theorem dX6_operates_101 : decode cX6_operates 101 = .ok (.if_icmp .ge 7, 3) := by decide +kernel
theorem dX6_operates_104 : decode cX6_operates 104 = .ok (.iconst 1, 1) := by decide +kernel
theorem dX6_operates_105 : decode cX6_operates 105 = .ok (.goto 17, 3) := by decide +kernel
theorem dX6_operates_108 : decode cX6_operates 108 = .ok (.iconst 0, 1) := by decide +kernel
theorem dX6_operates_109 : decode cX6_operates 109 = .ok (.goto 13, 3) := by decide +kernel
theorem dX6_operates_112 : decode cX6_operates 112 = .ok (.iload_n 3, 1) := by decide +kernel
theorem dX6_operates_113 : decode cX6_operates 113 = .ok (.iload_n 2, 1) := by decide +kernel
theorem dX6_operates_114 : decode cX6_operates 114 = .ok (.if_icmp .ne 7, 3) := by decide +kernel
theorem dX6_operates_117 : decode cX6_operates 117 = .ok (.iconst 1, 1) := by decide +kernel
theorem dX6_operates_118 : decode cX6_operates 118 = .ok (.goto 4, 3) := by decide +kernel
theorem dX6_operates_121 : decode cX6_operates 121 = .ok (.iconst 0, 1) := by decide +kernel
theorem dX6_operates_122 : decode cX6_operates 122 = .ok (.invokevirtual 251, 3) := by decide +kernel
theorem dX6_operates_125 : decode cX6_operates 125 = .ok (.return_, 1) := by decide +kernel
theorem dX6_calls_0 : decode cX6_calls 0 = .ok (.aload_n 0, 1) := by decide +kernel
theorem dX6_calls_1 : decode cX6_calls 1 = .ok (.getfield 221, 3) := by decide +kernel
theorem dX6_calls_4 : decode cX6_calls 4 = .ok (.bipush 10, 2) := by decide +kernel
theorem dX6_calls_6 : decode cX6_calls 6 = .ok (.if_icmp .ne 10, 3) := by decide +kernel
theorem dX6_calls_9 : decode cX6_calls 9 = .ok (.aload_n 0, 1) := by decide +kernel
theorem dX6_calls_10 : decode cX6_calls 10 = .ok (.bipush 6, 2) := by decide +kernel
theorem dX6_calls_12 : decode cX6_calls 12 = .ok (.putfield 233, 3) := by decide +kernel
theorem dX6_calls_15 : decode cX6_calls 15 = .ok (.return_, 1) := by decide +kernel
theorem dX6_calls_16 : decode cX6_calls 16 = .ok (.aload_n 0, 1) := by decide +kernel
theorem dX6_calls_17 : decode cX6_calls 17 = .ok (.getfield 34, 3) := by decide +kernel
theorem dX6_calls_20 : decode cX6_calls 20 = .ok (.iload_n 1, 1) := by decide +kernel
theorem dX6_calls_21 : decode cX6_calls 21 = .ok (.iaload, 1) := by decide +kernel
theorem dX6_calls_22 : decode cX6_calls 22 = .ok (.istore_n 2, 1) := by decide +kernel
theorem dX6_calls_23 : decode cX6_calls 23 = .ok (.aload_n 0, 1) := by decide +kernel
theorem dX6_calls_24 : decode cX6_calls 24 = .ok (.getfield 224, 3) := by decide +kernel
theorem dX6_calls_27 : decode cX6_calls 27 = .ok (.iload_n 2, 1) := by decide +kernel
theorem dX6_calls_28 : decode cX6_calls 28 = .ok (.isub, 1) := by decide +kernel
theorem dX6_calls_29 : decode cX6_calls 29 = .ok (.istore_n 3, 1) := by decide +kernel
theorem dX6_calls_30 : decode cX6_calls 30 = .ok (.aload_n 0, 1) := by decide +kernel
theorem dX6_calls_31 : decode cX6_calls 31 = .ok (.iload_n 3, 1) := by decide +kernel
theorem dX6_calls_32 : decode cX6_calls 32 = .ok (.putfield 224, 3) := by decide +kernel
theorem dX6_calls_35 : decode cX6_calls 35 = .ok (.aload_n 0, 1) := by decide +kernel
theorem dX6_calls_36 : decode cX6_calls 36 = .ok (.iload_n 1, 1) := by decide +kernel
theorem dX6_calls_37 : decode cX6_calls 37 = .ok (.aload_n 0, 1) := by decide +kernel
theorem dX6_calls_38 : decode cX6_calls 38 = .ok (.getfield 239, 3) := by decide +kernel
theorem dX6_calls_41 : decode cX6_calls 41 = .ok (.invokevirtual 242, 3) := by decide +kernel
theorem dX6_calls_44 : decode cX6_calls 44 = .ok (.iconst 0, 1) := by decide +kernel
theorem dX6_calls_45 : decode cX6_calls 45 = .ok (.istore 4, 2) := by decide +kernel
theorem dX6_calls_47 : decode cX6_calls 47 = .ok (.iload 4, 2) := by decide +kernel
theorem dX6_calls_49 : decode cX6_calls 49 = .ok (.iload_n 2, 1) := by decide +kernel
theorem dX6_calls_50 : decode cX6_calls 50 = .ok (.if_icmp .ge 35, 3) := by decide +kernel
theorem dX6_calls_53 : decode cX6_calls 53 = .ok (.aload_n 0, 1) := by decide +kernel
theorem dX6_calls_54 : decode cX6_calls 54 = .ok (.getfield 85, 3) := by decide +kernel
theorem dX6_calls_57 : decode cX6_calls 57 = .ok (.bipush 8, 2) := by decide +kernel
theorem dX6_calls_59 : decode cX6_calls 59 = .ok (.aload_n 0, 1) := by decide +kernel
theorem dX6_calls_60 : decode cX6_calls 60 = .ok (.getfield 221, 3) := by decide +kernel
theorem dX6_calls_63 : decode cX6_calls 63 = .ok (.iconst 1, 1) := by decide +kernel
theorem dX6_calls_64 : decode cX6_calls 64 = .ok (.isub, 1) := by decide +kernel
theorem dX6_calls_65 : decode cX6_calls 65 = .ok (.imul, 1) := by decide +kernel
theorem dX6_calls_66 : decode cX6_calls 66 = .ok (.iload 4, 2) := by decide +kernel
theorem dX6_calls_68 : decode cX6_calls 68 = .ok (.iadd, 1) := by decide +kernel
theorem dX6_calls_69 : decode cX6_calls 69 = .ok (.aload_n 0, 1) := by decide +kernel
theorem dX6_calls_70 : decode cX6_calls 70 = .ok (.getfield 94, 3) := by decide +kernel
theorem dX6_calls_73 : decode cX6_calls 73 = .ok (.iload_n 3, 1) := by decide +kernel
theorem dX6_calls_74 : decode cX6_calls 74 = .ok (.iload 4, 2) := by decide +kernel
theorem dX6_calls_76 : decode cX6_calls 76 = .ok (.iadd, 1) := by decide +kernel
theorem dX6_calls_77 : decode cX6_calls 77 = .ok (.iaload, 1) := by decide +kernel
theorem dX6_calls_78 : decode cX6_calls 78 = .ok (.iastore, 1) := by decide +kernel
theorem dX6_calls_79 : decode cX6_calls 79 = .ok (.iinc 4 1, 3) := by decide +kernel
theorem dX6_calls_82 : decode cX6_calls 82 = .ok (.goto (-35), 3) := by decide +kernel
theorem dX6_calls_85 : decode cX6_calls 85 = .ok (.return_, 1) := by decide +kernel
theorem dX6_returns_0 : decode cX6_returns 0 = .ok (.aload_n 0, 1) := by decide +kernel
theorem dX6_returns_1 : decode cX6_returns 1 = .ok (.invokevirtual 254, 3) := by decide +kernel
theorem dX6_returns_4 : decode cX6_returns 4 = .ok (.istore_n 1, 1) := by decide +kernel
theorem dX6_returns_5 : decode cX6_returns 5 = .ok (.aload_n 0, 1) := by decide +kernel
theorem dX6_returns_6 : decode cX6_returns 6 = .ok (.dup, 1) := by decide +kernel
theorem dX6_returns_7 : decode cX6_returns 7 = .ok (.getfield 221, 3) := by decide +kernel
theorem dX6_returns_10 : decode cX6_returns 10 = .ok (.iconst 1, 1) := by decide +kernel
theorem dX6_returns_11 : decode cX6_returns 11 = .ok (.isub, 1) := by decide +kernel
theorem dX6_returns_12 : decode cX6_returns 12 = .ok (.putfield 221, 3) := by decide +kernel
theorem dX6_returns_15 : decode cX6_returns 15 = .ok (.aload_n 0, 1) := by decide +kernel
theorem dX6_returns_16 : decode cX6_returns 16 = .ok (.aload_n 0, 1) := by decide +kernel
theorem dX6_returns_17 : decode cX6_returns 17 = .ok (.getfield 91, 3) := by decide +kernel
theorem dX6_returns_20 : decode cX6_returns 20 = .ok (.aload_n 0, 1) := by decide +kernel
theorem dX6_returns_21 : decode cX6_returns 21 = .ok (.getfield 221, 3) := by decide +kernel
theorem dX6_returns_24 : decode cX6_returns 24 = .ok (.iaload, 1) := by decide +kernel
theorem dX6_returns_25 : decode cX6_returns 25 = .ok (.putfield 224, 3) := by decide +kernel
theorem dX6_returns_28 : decode cX6_returns 28 = .ok (.aload_n 0, 1) := by decide +kernel
theorem dX6_returns_29 : decode cX6_returns 29 = .ok (.getfield 221, 3) := by decide +kernel
theorem dX6_returns_32 : decode cX6_returns 32 = .ok (.ifCond .ne 9, 3) := by decide +kernel
theorem dX6_returns_35 : decode cX6_returns 35 = .ok (.aload_n 0, 1) := by decide +kernel
theorem dX6_returns_36 : decode cX6_returns 36 = .ok (.iconst 3, 1) := by decide +kernel
theorem dX6_returns_37 : decode cX6_returns 37 = .ok (.putfield 233, 3) := by decide +kernel
theorem dX6_returns_40 : decode cX6_returns 40 = .ok (.return_, 1) := by decide +kernel
theorem dX6_returns_41 : decode cX6_returns 41 = .ok (.aload_n 0, 1) := by decide +kernel
theorem dX6_returns_42 : decode cX6_returns 42 = .ok (.aload_n 0, 1) := by decide +kernel
theorem dX6_returns_43 : decode cX6_returns 43 = .ok (.getfield 88, 3) := by decide +kernel
theorem dX6_returns_46 : decode cX6_returns 46 = .ok (.aload_n 0, 1) := by decide +kernel
theorem dX6_returns_47 : decode cX6_returns 47 = .ok (.getfield 221, 3) := by decide +kernel
theorem dX6_returns_50 : decode cX6_returns 50 = .ok (.iaload, 1) := by decide +kernel
theorem dX6_returns_51 : decode cX6_returns 51 = .ok (.putfield 239, 3) := by decide +kernel
theorem dX6_returns_54 : decode cX6_returns 54 = .ok (.aload_n 0, 1) := by decide +kernel
theorem dX6_returns_55 : decode cX6_returns 55 = .ok (.iload_n 1, 1) := by decide +kernel
theorem dX6_returns_56 : decode cX6_returns 56 = .ok (.invokevirtual 251, 3) := by decide +kernel
theorem dX6_returns_59 : decode cX6_returns 59 = .ok (.return_, 1) := by decide +kernel
theorem dX6_place_0 : decode cX6_place 0 = .ok (.iload_n 2, 1) := by decide +kernel
theorem dX6_place_1 : decode cX6_place 1 = .ok (.ifCond .eq 10, 3) := by decide +kernel
theorem dX6_place_4 : decode cX6_place 4 = .ok (.aload_n 0, 1) := by decide +kernel
theorem dX6_place_5 : decode cX6_place 5 = .ok (.invokevirtual 254, 3) := by decide +kernel
theorem dX6_place_8 : decode cX6_place 8 = .ok (.goto 4, 3) := by decide +kernel
theorem dX6_place_11 : decode cX6_place 11 = .ok (.iconst 0, 1) := by decide +kernel
theorem dX6_place_12 : decode cX6_place 12 = .ok (.istore_n 3, 1) := by decide +kernel
theorem dX6_place_13 : decode cX6_place 13 = .ok (.aload_n 0, 1) := by decide +kernel
theorem dX6_place_14 : decode cX6_place 14 = .ok (.invokevirtual 254, 3) := by decide +kernel
theorem dX6_place_17 : decode cX6_place 17 = .ok (.istore 4, 2) := by decide +kernel
theorem dX6_place_19 : decode cX6_place 19 = .ok (.iload 4, 2) := by decide +kernel
theorem dX6_place_21 : decode cX6_place 21 = .ok (.ifCond .lt 10, 3) := by decide +kernel
theorem dX6_place_24 : decode cX6_place 24 = .ok (.iload 4, 2) := by decide +kernel
theorem dX6_place_26 : decode cX6_place 26 = .ok (.bipush 7, 2) := by decide +kernel
theorem dX6_place_28 : decode cX6_place 28 = .ok (.if_icmp .le 11, 3) := by decide +kernel
theorem dX6_place_31 : decode cX6_place 31 = .ok (.aload_n 0, 1) := by decide +kernel
theorem dX6_place_32 : decode cX6_place 32 = .ok (.iconst 5, 1) := by decide +kernel
theorem dX6_place_33 : decode cX6_place 33 = .ok (.putfield 233, 3) := by decide +kernel
theorem dX6_place_36 : decode cX6_place 36 = .ok (.goto 39, 3) := by decide +kernel
theorem dX6_place_39 : decode cX6_place 39 = .ok (.iload_n 2, 1) := by decide +kernel
theorem dX6_place_40 : decode cX6_place 40 = .ok (.ifCond .eq 19, 3) := by decide +kernel
theorem dX6_place_43 : decode cX6_place 43 = .ok (.aload_n 0, 1) := by decide +kernel
theorem dX6_place_44 : decode cX6_place 44 = .ok (.getfield 76, 3) := by decide +kernel
theorem dX6_place_47 : decode cX6_place 47 = .ok (.bipush 8, 2) := by decide +kernel
theorem dX6_place_49 : decode cX6_place 49 = .ok (.iload_n 1, 1) := by decide +kernel
theorem dX6_place_50 : decode cX6_place 50 = .ok (.imul, 1) := by decide +kernel
theorem dX6_place_51 : decode cX6_place 51 = .ok (.iload 4, 2) := by decide +kernel
theorem dX6_place_53 : decode cX6_place 53 = .ok (.iadd, 1) := by decide +kernel
theorem dX6_place_54 : decode cX6_place 54 = .ok (.iload_n 3, 1) := by decide +kernel
theorem dX6_place_55 : decode cX6_place 55 = .ok (.iastore, 1) := by decide +kernel
theorem dX6_place_56 : decode cX6_place 56 = .ok (.goto 19, 3) := by decide +kernel
theorem dX6_place_59 : decode cX6_place 59 = .ok (.aload_n 0, 1) := by decide +kernel
theorem dX6_place_60 : decode cX6_place 60 = .ok (.aload_n 0, 1) := by decide +kernel
theorem dX6_place_61 : decode cX6_place 61 = .ok (.getfield 76, 3) := by decide +kernel
theorem dX6_place_64 : decode cX6_place 64 = .ok (.bipush 8, 2) := by decide +kernel
theorem dX6_place_66 : decode cX6_place 66 = .ok (.iload_n 1, 1) := by decide +kernel
theorem dX6_place_67 : decode cX6_place 67 = .ok (.imul, 1) := by decide +kernel
theorem dX6_place_68 : decode cX6_place 68 = .ok (.iload 4, 2) := by decide +kernel
theorem dX6_place_70 : decode cX6_place 70 = .ok (.iadd, 1) := by decide +kernel
theorem dX6_place_71 : decode cX6_place 71 = .ok (.iaload, 1) := by decide +kernel
theorem dX6_place_72 : decode cX6_place 72 = .ok (.invokevirtual 251, 3) := by decide +kernel
theorem dX6_place_75 : decode cX6_place 75 = .ok (.return_, 1) := by decide +kernel
theorem dX6_prints_0 : decode cX6_prints 0 = .ok (.aload_n 0, 1) := by decide +kernel
theorem dX6_prints_1 : decode cX6_prints 1 = .ok (.getfield 82, 3) := by decide +kernel
theorem dX6_prints_4 : decode cX6_prints 4 = .ok (.aload_n 0, 1) := by decide +kernel
theorem dX6_prints_5 : decode cX6_prints 5 = .ok (.getfield 215, 3) := by decide +kernel
theorem dX6_prints_8 : decode cX6_prints 8 = .ok (.bipush 32, 2) := by decide +kernel
theorem dX6_prints_10 : decode cX6_prints 10 = .ok (.irem, 1) := by decide +kernel
theorem dX6_prints_11 : decode cX6_prints 11 = .ok (.aload_n 0, 1) := by decide +kernel
theorem dX6_prints_12 : decode cX6_prints 12 = .ok (.invokevirtual 254, 3) := by decide +kernel
theorem dX6_prints_15 : decode cX6_prints 15 = .ok (.iastore, 1) := by decide +kernel
theorem dX6_prints_16 : decode cX6_prints 16 = .ok (.aload_n 0, 1) := by decide +kernel
theorem dX6_prints_17 : decode cX6_prints 17 = .ok (.dup, 1) := by decide +kernel
theorem dX6_prints_18 : decode cX6_prints 18 = .ok (.getfield 215, 3) := by decide +kernel
theorem dX6_prints_21 : decode cX6_prints 21 = .ok (.iconst 1, 1) := by decide +kernel
theorem dX6_prints_22 : decode cX6_prints 22 = .ok (.iadd, 1) := by decide +kernel
theorem dX6_prints_23 : decode cX6_prints 23 = .ok (.putfield 215, 3) := by decide +kernel
theorem dX6_prints_26 : decode cX6_prints 26 = .ok (.return_, 1) := by decide +kernel
theorem dX6_does_0 : decode cX6_does 0 = .ok (.bipush 8, 2) := by decide +kernel
theorem dX6_does_2 : decode cX6_does 2 = .ok (.aload_n 0, 1) := by decide +kernel
theorem dX6_does_3 : decode cX6_does 3 = .ok (.getfield 221, 3) := by decide +kernel
theorem dX6_does_6 : decode cX6_does 6 = .ok (.iconst 1, 1) := by decide +kernel
theorem dX6_does_7 : decode cX6_does 7 = .ok (.isub, 1) := by decide +kernel
theorem dX6_does_8 : decode cX6_does 8 = .ok (.imul, 1) := by decide +kernel
theorem dX6_does_9 : decode cX6_does 9 = .ok (.istore_n 3, 1) := by decide +kernel
theorem dX6_does_10 : decode cX6_does 10 = .ok (.iload_n 1, 1) := by decide +kernel
theorem dX6_does_11 : decode cX6_does 11 = .ok (.tableswitch 261 0 16 #[81, 89, 96, 109, 124, 133, 145, 164, 261, 172, 185, 200, 209, 217, 239, 247, 254], 81) := by decide +kernel
theorem dX6_does_92 : decode cX6_does 92 = .ok (.aload_n 0, 1) := by decide +kernel
theorem dX6_does_93 : decode cX6_does 93 = .ok (.iload_n 2, 1) := by decide +kernel
theorem dX6_does_94 : decode cX6_does 94 = .ok (.invokevirtual 251, 3) := by decide +kernel
theorem dX6_does_97 : decode cX6_does 97 = .ok (.goto 183, 3) := by decide +kernel
theorem dX6_does_100 : decode cX6_does 100 = .ok (.aload_n 0, 1) := by decide +kernel
theorem dX6_does_101 : decode cX6_does 101 = .ok (.invokevirtual 257, 3) := by decide +kernel
theorem dX6_does_104 : decode cX6_does 104 = .ok (.goto 176, 3) := by decide +kernel
theorem dX6_does_107 : decode cX6_does 107 = .ok (.aload_n 0, 1) := by decide +kernel
theorem dX6_does_108 : decode cX6_does 108 = .ok (.aload_n 0, 1) := by decide +kernel
theorem dX6_does_109 : decode cX6_does 109 = .ok (.getfield 73, 3) := by decide +kernel
theorem dX6_does_112 : decode cX6_does 112 = .ok (.iload_n 2, 1) := by decide +kernel
theorem dX6_does_113 : decode cX6_does 113 = .ok (.iaload, 1) := by decide +kernel
theorem dX6_does_114 : decode cX6_does 114 = .ok (.invokevirtual 251, 3) := by decide +kernel
theorem dX6_does_117 : decode cX6_does 117 = .ok (.goto 163, 3) := by decide +kernel
theorem dX6_does_120 : decode cX6_does 120 = .ok (.aload_n 0, 1) := by decide +kernel
theorem dX6_does_121 : decode cX6_does 121 = .ok (.aload_n 0, 1) := by decide +kernel
theorem dX6_does_122 : decode cX6_does 122 = .ok (.getfield 85, 3) := by decide +kernel
theorem dX6_does_125 : decode cX6_does 125 = .ok (.iload_n 3, 1) := by decide +kernel
theorem dX6_does_126 : decode cX6_does 126 = .ok (.iload_n 2, 1) := by decide +kernel
theorem dX6_does_127 : decode cX6_does 127 = .ok (.iadd, 1) := by decide +kernel
theorem dX6_does_128 : decode cX6_does 128 = .ok (.iaload, 1) := by decide +kernel
theorem dX6_does_129 : decode cX6_does 129 = .ok (.invokevirtual 251, 3) := by decide +kernel
theorem dX6_does_132 : decode cX6_does 132 = .ok (.goto 148, 3) := by decide +kernel
theorem dX6_does_135 : decode cX6_does 135 = .ok (.aload_n 0, 1) := by decide +kernel
theorem dX6_does_136 : decode cX6_does 136 = .ok (.iload_n 2, 1) := by decide +kernel
theorem dX6_does_137 : decode cX6_does 137 = .ok (.iconst 0, 1) := by decide +kernel
theorem dX6_does_138 : decode cX6_does 138 = .ok (.invokevirtual 260, 3) := by decide +kernel
theorem dX6_does_141 : decode cX6_does 141 = .ok (.goto 139, 3) := by decide +kernel
theorem dX6_does_144 : decode cX6_does 144 = .ok (.aload_n 0, 1) := by decide +kernel
theorem dX6_does_145 : decode cX6_does 145 = .ok (.aload_n 0, 1) := by decide +kernel
theorem dX6_does_146 : decode cX6_does 146 = .ok (.invokevirtual 254, 3) := by decide +kernel
theorem dX6_does_149 : decode cX6_does 149 = .ok (.ineg, 1) := by decide +kernel
theorem dX6_does_150 : decode cX6_does 150 = .ok (.invokevirtual 251, 3) := by decide +kernel
theorem dX6_does_153 : decode cX6_does 153 = .ok (.goto 127, 3) := by decide +kernel
theorem dX6_does_156 : decode cX6_does 156 = .ok (.aload_n 0, 1) := by decide +kernel
theorem dX6_does_157 : decode cX6_does 157 = .ok (.aload_n 0, 1) := by decide +kernel
theorem dX6_does_158 : decode cX6_does 158 = .ok (.invokevirtual 254, 3) := by decide +kernel
theorem dX6_does_161 : decode cX6_does 161 = .ok (.ifCond .ne 7, 3) := by decide +kernel
theorem dX6_does_164 : decode cX6_does 164 = .ok (.iconst 1, 1) := by decide +kernel
theorem dX6_does_165 : decode cX6_does 165 = .ok (.goto 4, 3) := by decide +kernel
theorem dX6_does_168 : decode cX6_does 168 = .ok (.iconst 0, 1) := by decide +kernel
theorem dX6_does_169 : decode cX6_does 169 = .ok (.invokevirtual 251, 3) := by decide +kernel
theorem dX6_does_172 : decode cX6_does 172 = .ok (.goto 108, 3) := by decide +kernel
theorem dX6_does_175 : decode cX6_does 175 = .ok (.aload_n 0, 1) := by decide +kernel
theorem dX6_does_176 : decode cX6_does 176 = .ok (.iload_n 2, 1) := by decide +kernel
theorem dX6_does_177 : decode cX6_does 177 = .ok (.invokevirtual 264, 3) := by decide +kernel
theorem dX6_does_180 : decode cX6_does 180 = .ok (.goto 100, 3) := by decide +kernel
theorem dX6_does_183 : decode cX6_does 183 = .ok (.aload_n 0, 1) := by decide +kernel
theorem dX6_does_184 : decode cX6_does 184 = .ok (.getfield 73, 3) := by decide +kernel
theorem dX6_does_187 : decode cX6_does 187 = .ok (.iload_n 2, 1) := by decide +kernel
theorem dX6_does_188 : decode cX6_does 188 = .ok (.aload_n 0, 1) := by decide +kernel
theorem dX6_does_189 : decode cX6_does 189 = .ok (.invokevirtual 254, 3) := by decide +kernel
theorem dX6_does_192 : decode cX6_does 192 = .ok (.iastore, 1) := by decide +kernel
theorem dX6_does_193 : decode cX6_does 193 = .ok (.goto 87, 3) := by decide +kernel
theorem dX6_does_196 : decode cX6_does 196 = .ok (.aload_n 0, 1) := by decide +kernel
theorem dX6_does_197 : decode cX6_does 197 = .ok (.getfield 85, 3) := by decide +kernel
theorem dX6_does_200 : decode cX6_does 200 = .ok (.iload_n 3, 1) := by decide +kernel
theorem dX6_does_201 : decode cX6_does 201 = .ok (.iload_n 2, 1) := by decide +kernel
theorem dX6_does_202 : decode cX6_does 202 = .ok (.iadd, 1) := by decide +kernel
theorem dX6_does_203 : decode cX6_does 203 = .ok (.aload_n 0, 1) := by decide +kernel
theorem dX6_does_204 : decode cX6_does 204 = .ok (.invokevirtual 254, 3) := by decide +kernel
theorem dX6_does_207 : decode cX6_does 207 = .ok (.iastore, 1) := by decide +kernel
theorem dX6_does_208 : decode cX6_does 208 = .ok (.goto 72, 3) := by decide +kernel
theorem dX6_does_211 : decode cX6_does 211 = .ok (.aload_n 0, 1) := by decide +kernel
theorem dX6_does_212 : decode cX6_does 212 = .ok (.iload_n 2, 1) := by decide +kernel
theorem dX6_does_213 : decode cX6_does 213 = .ok (.iconst 1, 1) := by decide +kernel
theorem dX6_does_214 : decode cX6_does 214 = .ok (.invokevirtual 260, 3) := by decide +kernel
theorem dX6_does_217 : decode cX6_does 217 = .ok (.goto 63, 3) := by decide +kernel
theorem dX6_does_220 : decode cX6_does 220 = .ok (.aload_n 0, 1) := by decide +kernel
theorem dX6_does_221 : decode cX6_does 221 = .ok (.invokevirtual 254, 3) := by decide +kernel
theorem dX6_does_224 : decode cX6_does 224 = .ok (.pop, 1) := by decide +kernel
theorem dX6_does_225 : decode cX6_does 225 = .ok (.goto 55, 3) := by decide +kernel
theorem dX6_does_228 : decode cX6_does 228 = .ok (.aload_n 0, 1) := by decide +kernel
theorem dX6_does_229 : decode cX6_does 229 = .ok (.aload_n 0, 1) := by decide +kernel
theorem dX6_does_230 : decode cX6_does 230 = .ok (.invokevirtual 254, 3) := by decide +kernel
theorem dX6_does_233 : decode cX6_does 233 = .ok (.ifCond .ne 7, 3) := by decide +kernel
theorem dX6_does_236 : decode cX6_does 236 = .ok (.iload_n 2, 1) := by decide +kernel
theorem dX6_does_237 : decode cX6_does 237 = .ok (.goto 7, 3) := by decide +kernel
theorem dX6_does_240 : decode cX6_does 240 = .ok (.aload_n 0, 1) := by decide +kernel
theorem dX6_does_241 : decode cX6_does 241 = .ok (.getfield 239, 3) := by decide +kernel
theorem dX6_does_244 : decode cX6_does 244 = .ok (.putfield 239, 3) := by decide +kernel
theorem dX6_does_247 : decode cX6_does 247 = .ok (.goto 33, 3) := by decide +kernel
theorem dX6_does_250 : decode cX6_does 250 = .ok (.aload_n 0, 1) := by decide +kernel
theorem dX6_does_251 : decode cX6_does 251 = .ok (.iload_n 2, 1) := by decide +kernel
theorem dX6_does_252 : decode cX6_does 252 = .ok (.putfield 239, 3) := by decide +kernel
theorem dX6_does_255 : decode cX6_does 255 = .ok (.goto 25, 3) := by decide +kernel
theorem dX6_does_258 : decode cX6_does 258 = .ok (.aload_n 0, 1) := by decide +kernel
theorem dX6_does_259 : decode cX6_does 259 = .ok (.invokevirtual 266, 3) := by decide +kernel
theorem dX6_does_262 : decode cX6_does 262 = .ok (.goto 18, 3) := by decide +kernel
theorem dX6_does_265 : decode cX6_does 265 = .ok (.aload_n 0, 1) := by decide +kernel
theorem dX6_does_266 : decode cX6_does 266 = .ok (.invokevirtual 269, 3) := by decide +kernel
theorem dX6_does_269 : decode cX6_does 269 = .ok (.goto 11, 3) := by decide +kernel
theorem dX6_does_272 : decode cX6_does 272 = .ok (.aload_n 0, 1) := by decide +kernel
theorem dX6_does_273 : decode cX6_does 273 = .ok (.iload_n 1, 1) := by decide +kernel
theorem dX6_does_274 : decode cX6_does 274 = .ok (.bipush 20, 2) := by decide +kernel
theorem dX6_does_276 : decode cX6_does 276 = .ok (.isub, 1) := by decide +kernel
theorem dX6_does_277 : decode cX6_does 277 = .ok (.invokevirtual 272, 3) := by decide +kernel
theorem dX6_does_280 : decode cX6_does 280 = .ok (.return_, 1) := by decide +kernel
theorem dX6_run_0 : decode cX6_run 0 = .ok (.aload_n 0, 1) := by decide +kernel
theorem dX6_run_1 : decode cX6_run 1 = .ok (.iload_n 1, 1) := by decide +kernel
theorem dX6_run_2 : decode cX6_run 2 = .ok (.iconst 1, 1) := by decide +kernel
theorem dX6_run_3 : decode cX6_run 3 = .ok (.if_icmp .lt 10, 3) := by decide +kernel
theorem dX6_run_6 : decode cX6_run 6 = .ok (.iload_n 1, 1) := by decide +kernel
theorem dX6_run_7 : decode cX6_run 7 = .ok (.sipush 200, 3) := by decide +kernel
theorem dX6_run_10 : decode cX6_run 10 = .ok (.if_icmp .le 7, 3) := by decide +kernel
theorem dX6_run_13 : decode cX6_run 13 = .ok (.iconst 1, 1) := by decide +kernel
theorem dX6_run_14 : decode cX6_run 14 = .ok (.goto 15, 3) := by decide +kernel
theorem dX6_run_17 : decode cX6_run 17 = .ok (.aload_n 0, 1) := by decide +kernel
theorem dX6_run_18 : decode cX6_run 18 = .ok (.getfield 233, 3) := by decide +kernel
theorem dX6_run_21 : decode cX6_run 21 = .ok (.ifCond .ne 7, 3) := by decide +kernel
theorem dX6_run_24 : decode cX6_run 24 = .ok (.iconst 2, 1) := by decide +kernel
theorem dX6_run_25 : decode cX6_run 25 = .ok (.goto 4, 3) := by decide +kernel
theorem dX6_run_28 : decode cX6_run 28 = .ok (.iconst 0, 1) := by decide +kernel
theorem dX6_run_29 : decode cX6_run 29 = .ok (.putfield 97, 3) := by decide +kernel
theorem dX6_run_32 : decode cX6_run 32 = .ok (.aload_n 0, 1) := by decide +kernel
theorem dX6_run_33 : decode cX6_run 33 = .ok (.getfield 97, 3) := by decide +kernel
theorem dX6_run_36 : decode cX6_run 36 = .ok (.ifCond .le 5, 3) := by decide +kernel
theorem dX6_run_39 : decode cX6_run 39 = .ok (.iconst 0, 1) := by decide +kernel
theorem dX6_run_40 : decode cX6_run 40 = .ok (.ireturn, 1) := by decide +kernel
theorem dX6_run_41 : decode cX6_run 41 = .ok (.aload_n 0, 1) := by decide +kernel
theorem dX6_run_42 : decode cX6_run 42 = .ok (.aload_n 0, 1) := by decide +kernel
theorem dX6_run_43 : decode cX6_run 43 = .ok (.getfield 233, 3) := by decide +kernel
theorem dX6_run_46 : decode cX6_run 46 = .ok (.iconst 2, 1) := by decide +kernel
theorem dX6_run_47 : decode cX6_run 47 = .ok (.if_icmp .ne 14, 3) := by decide +kernel
theorem dX6_run_50 : decode cX6_run 50 = .ok (.aload_n 0, 1) := by decide +kernel
theorem dX6_run_51 : decode cX6_run 51 = .ok (.getfield 245, 3) := by decide +kernel
theorem dX6_run_54 : decode cX6_run 54 = .ok (.ifCond .le 7, 3) := by decide +kernel
theorem dX6_run_57 : decode cX6_run 57 = .ok (.iconst 1, 1) := by decide +kernel
theorem dX6_run_58 : decode cX6_run 58 = .ok (.goto 7, 3) := by decide +kernel
theorem dX6_run_61 : decode cX6_run 61 = .ok (.aload_n 0, 1) := by decide +kernel
theorem dX6_run_62 : decode cX6_run 62 = .ok (.getfield 233, 3) := by decide +kernel
theorem dX6_run_65 : decode cX6_run 65 = .ok (.putfield 233, 3) := by decide +kernel
theorem dX6_run_68 : decode cX6_run 68 = .ok (.iconst 0, 1) := by decide +kernel
theorem dX6_run_69 : decode cX6_run 69 = .ok (.istore_n 2, 1) := by decide +kernel
theorem dX6_run_70 : decode cX6_run 70 = .ok (.iconst 1, 1) := by decide +kernel
theorem dX6_run_71 : decode cX6_run 71 = .ok (.istore_n 3, 1) := by decide +kernel
theorem dX6_run_72 : decode cX6_run 72 = .ok (.aload_n 0, 1) := by decide +kernel
theorem dX6_run_73 : decode cX6_run 73 = .ok (.getfield 233, 3) := by decide +kernel
theorem dX6_run_76 : decode cX6_run 76 = .ok (.iconst 1, 1) := by decide +kernel
theorem dX6_run_77 : decode cX6_run 77 = .ok (.if_icmp .ne 113, 3) := by decide +kernel
theorem dX6_run_80 : decode cX6_run 80 = .ok (.iload_n 3, 1) := by decide +kernel
theorem dX6_run_81 : decode cX6_run 81 = .ok (.ifCond .eq 109, 3) := by decide +kernel
theorem dX6_run_84 : decode cX6_run 84 = .ok (.aload_n 0, 1) := by decide +kernel
theorem dX6_run_85 : decode cX6_run 85 = .ok (.getfield 19, 3) := by decide +kernel
theorem dX6_run_88 : decode cX6_run 88 = .ok (.aload_n 0, 1) := by decide +kernel
theorem dX6_run_89 : decode cX6_run 89 = .ok (.getfield 239, 3) := by decide +kernel
theorem dX6_run_92 : decode cX6_run 92 = .ok (.iaload, 1) := by decide +kernel
theorem dX6_run_93 : decode cX6_run 93 = .ok (.bipush 8, 2) := by decide +kernel
theorem dX6_run_95 : decode cX6_run 95 = .ok (.if_icmp .ne 56, 3) := by decide +kernel
theorem dX6_run_98 : decode cX6_run 98 = .ok (.iload_n 2, 1) := by decide +kernel
theorem dX6_run_99 : decode cX6_run 99 = .ok (.iload_n 1, 1) := by decide +kernel
theorem dX6_run_100 : decode cX6_run 100 = .ok (.if_icmp .ge 7, 3) := by decide +kernel
theorem dX6_run_103 : decode cX6_run 103 = .ok (.iconst 1, 1) := by decide +kernel
theorem dX6_run_104 : decode cX6_run 104 = .ok (.goto 4, 3) := by decide +kernel
theorem dX6_run_107 : decode cX6_run 107 = .ok (.iconst 0, 1) := by decide +kernel
theorem dX6_run_108 : decode cX6_run 108 = .ok (.istore_n 3, 1) := by decide +kernel
theorem dX6_run_109 : decode cX6_run 109 = .ok (.iinc 2 1, 3) := by decide +kernel
theorem dX6_run_112 : decode cX6_run 112 = .ok (.aload_n 0, 1) := by decide +kernel
theorem dX6_run_113 : decode cX6_run 113 = .ok (.dup, 1) := by decide +kernel
theorem dX6_run_114 : decode cX6_run 114 = .ok (.getfield 218, 3) := by decide +kernel
theorem dX6_run_117 : decode cX6_run 117 = .ok (.iload_n 3, 1) := by decide +kernel
theorem dX6_run_118 : decode cX6_run 118 = .ok (.ifCond .eq 7, 3) := by decide +kernel
theorem dX6_run_121 : decode cX6_run 121 = .ok (.iconst 1, 1) := by decide +kernel
theorem dX6_run_122 : decode cX6_run 122 = .ok (.goto 4, 3) := by decide +kernel
theorem dX6_run_125 : decode cX6_run 125 = .ok (.iconst 0, 1) := by decide +kernel
theorem dX6_run_126 : decode cX6_run 126 = .ok (.iadd, 1) := by decide +kernel
theorem dX6_run_127 : decode cX6_run 127 = .ok (.putfield 218, 3) := by decide +kernel
theorem dX6_run_130 : decode cX6_run 130 = .ok (.aload_n 0, 1) := by decide +kernel
theorem dX6_run_131 : decode cX6_run 131 = .ok (.dup, 1) := by decide +kernel
theorem dX6_run_132 : decode cX6_run 132 = .ok (.getfield 239, 3) := by decide +kernel
theorem dX6_run_135 : decode cX6_run 135 = .ok (.iload_n 3, 1) := by decide +kernel
theorem dX6_run_136 : decode cX6_run 136 = .ok (.ifCond .eq 7, 3) := by decide +kernel
theorem dX6_run_139 : decode cX6_run 139 = .ok (.iconst 1, 1) := by decide +kernel
theorem dX6_run_140 : decode cX6_run 140 = .ok (.goto 4, 3) := by decide +kernel
theorem dX6_run_143 : decode cX6_run 143 = .ok (.iconst 0, 1) := by decide +kernel
theorem dX6_run_144 : decode cX6_run 144 = .ok (.iadd, 1) := by decide +kernel
theorem dX6_run_145 : decode cX6_run 145 = .ok (.putfield 239, 3) := by decide +kernel
theorem dX6_run_148 : decode cX6_run 148 = .ok (.goto (-76), 3) := by decide +kernel
theorem dX6_run_151 : decode cX6_run 151 = .ok (.aload_n 0, 1) := by decide +kernel
theorem dX6_run_152 : decode cX6_run 152 = .ok (.dup, 1) := by decide +kernel
theorem dX6_run_153 : decode cX6_run 153 = .ok (.getfield 239, 3) := by decide +kernel
theorem dX6_run_156 : decode cX6_run 156 = .ok (.iconst 1, 1) := by decide +kernel
theorem dX6_run_157 : decode cX6_run 157 = .ok (.iadd, 1) := by decide +kernel
theorem dX6_run_158 : decode cX6_run 158 = .ok (.putfield 239, 3) := by decide +kernel
theorem dX6_run_161 : decode cX6_run 161 = .ok (.aload_n 0, 1) := by decide +kernel
theorem dX6_run_162 : decode cX6_run 162 = .ok (.aload_n 0, 1) := by decide +kernel
theorem dX6_run_163 : decode cX6_run 163 = .ok (.getfield 19, 3) := by decide +kernel
theorem dX6_run_166 : decode cX6_run 166 = .ok (.aload_n 0, 1) := by decide +kernel
theorem dX6_run_167 : decode cX6_run 167 = .ok (.getfield 239, 3) := by decide +kernel
theorem dX6_run_170 : decode cX6_run 170 = .ok (.iconst 1, 1) := by decide +kernel
theorem dX6_run_171 : decode cX6_run 171 = .ok (.isub, 1) := by decide +kernel
theorem dX6_run_172 : decode cX6_run 172 = .ok (.iaload, 1) := by decide +kernel
theorem dX6_run_173 : decode cX6_run 173 = .ok (.aload_n 0, 1) := by decide +kernel
theorem dX6_run_174 : decode cX6_run 174 = .ok (.getfield 22, 3) := by decide +kernel
theorem dX6_run_177 : decode cX6_run 177 = .ok (.aload_n 0, 1) := by decide +kernel
theorem dX6_run_178 : decode cX6_run 178 = .ok (.getfield 239, 3) := by decide +kernel
theorem dX6_run_181 : decode cX6_run 181 = .ok (.iconst 1, 1) := by decide +kernel
theorem dX6_run_182 : decode cX6_run 182 = .ok (.isub, 1) := by decide +kernel
theorem dX6_run_183 : decode cX6_run 183 = .ok (.iaload, 1) := by decide +kernel
theorem dX6_run_184 : decode cX6_run 184 = .ok (.invokevirtual 275, 3) := by decide +kernel
theorem dX6_run_187 : decode cX6_run 187 = .ok (.goto (-115), 3) := by decide +kernel
theorem dX6_run_190 : decode cX6_run 190 = .ok (.aload_n 0, 1) := by decide +kernel
theorem dX6_run_191 : decode cX6_run 191 = .ok (.getfield 233, 3) := by decide +kernel
theorem dX6_run_194 : decode cX6_run 194 = .ok (.ireturn, 1) := by decide +kernel
theorem dX6_shown_0 : decode cX6_shown 0 = .ok (.aload_n 0, 1) := by decide +kernel
theorem dX6_shown_1 : decode cX6_shown 1 = .ok (.iload_n 1, 1) := by decide +kernel
theorem dX6_shown_2 : decode cX6_shown 2 = .ok (.ifCond .lt 17, 3) := by decide +kernel
theorem dX6_shown_5 : decode cX6_shown 5 = .ok (.iload_n 1, 1) := by decide +kernel
theorem dX6_shown_6 : decode cX6_shown 6 = .ok (.aload_n 0, 1) := by decide +kernel
theorem dX6_shown_7 : decode cX6_shown 7 = .ok (.getfield 215, 3) := by decide +kernel
theorem dX6_shown_10 : decode cX6_shown 10 = .ok (.if_icmp .ge 9, 3) := by decide +kernel
theorem dX6_shown_13 : decode cX6_shown 13 = .ok (.iload_n 1, 1) := by decide +kernel
theorem dX6_shown_14 : decode cX6_shown 14 = .ok (.bipush 32, 2) := by decide +kernel
theorem dX6_shown_16 : decode cX6_shown 16 = .ok (.if_icmp .lt 7, 3) := by decide +kernel
theorem dX6_shown_19 : decode cX6_shown 19 = .ok (.iconst 1, 1) := by decide +kernel
theorem dX6_shown_20 : decode cX6_shown 20 = .ok (.goto 4, 3) := by decide +kernel
theorem dX6_shown_23 : decode cX6_shown 23 = .ok (.iconst 0, 1) := by decide +kernel
theorem dX6_shown_24 : decode cX6_shown 24 = .ok (.putfield 97, 3) := by decide +kernel
theorem dX6_shown_27 : decode cX6_shown 27 = .ok (.aload_n 0, 1) := by decide +kernel
theorem dX6_shown_28 : decode cX6_shown 28 = .ok (.getfield 97, 3) := by decide +kernel
theorem dX6_shown_31 : decode cX6_shown 31 = .ok (.ifCond .le 7, 3) := by decide +kernel
theorem dX6_shown_34 : decode cX6_shown 34 = .ok (.iconst 0, 1) := by decide +kernel
theorem dX6_shown_35 : decode cX6_shown 35 = .ok (.goto 19, 3) := by decide +kernel
theorem dX6_shown_38 : decode cX6_shown 38 = .ok (.aload_n 0, 1) := by decide +kernel
theorem dX6_shown_39 : decode cX6_shown 39 = .ok (.getfield 82, 3) := by decide +kernel
theorem dX6_shown_42 : decode cX6_shown 42 = .ok (.aload_n 0, 1) := by decide +kernel
theorem dX6_shown_43 : decode cX6_shown 43 = .ok (.getfield 215, 3) := by decide +kernel
theorem dX6_shown_46 : decode cX6_shown 46 = .ok (.iconst 1, 1) := by decide +kernel
theorem dX6_shown_47 : decode cX6_shown 47 = .ok (.isub, 1) := by decide +kernel
theorem dX6_shown_48 : decode cX6_shown 48 = .ok (.iload_n 1, 1) := by decide +kernel
theorem dX6_shown_49 : decode cX6_shown 49 = .ok (.isub, 1) := by decide +kernel
theorem dX6_shown_50 : decode cX6_shown 50 = .ok (.bipush 32, 2) := by decide +kernel
theorem dX6_shown_52 : decode cX6_shown 52 = .ok (.irem, 1) := by decide +kernel
theorem dX6_shown_53 : decode cX6_shown 53 = .ok (.iaload, 1) := by decide +kernel
theorem dX6_shown_54 : decode cX6_shown 54 = .ok (.ireturn, 1) := by decide +kernel
theorem dX6_global_0 : decode cX6_global 0 = .ok (.aload_n 0, 1) := by decide +kernel
theorem dX6_global_1 : decode cX6_global 1 = .ok (.iload_n 1, 1) := by decide +kernel
theorem dX6_global_2 : decode cX6_global 2 = .ok (.ifCond .lt 9, 3) := by decide +kernel
theorem dX6_global_5 : decode cX6_global 5 = .ok (.iload_n 1, 1) := by decide +kernel
theorem dX6_global_6 : decode cX6_global 6 = .ok (.bipush 7, 2) := by decide +kernel
theorem dX6_global_8 : decode cX6_global 8 = .ok (.if_icmp .le 7, 3) := by decide +kernel
theorem dX6_global_11 : decode cX6_global 11 = .ok (.iconst 1, 1) := by decide +kernel
theorem dX6_global_12 : decode cX6_global 12 = .ok (.goto 4, 3) := by decide +kernel
theorem dX6_global_15 : decode cX6_global 15 = .ok (.iconst 0, 1) := by decide +kernel
theorem dX6_global_16 : decode cX6_global 16 = .ok (.putfield 97, 3) := by decide +kernel
theorem dX6_global_19 : decode cX6_global 19 = .ok (.aload_n 0, 1) := by decide +kernel
theorem dX6_global_20 : decode cX6_global 20 = .ok (.getfield 97, 3) := by decide +kernel
theorem dX6_global_23 : decode cX6_global 23 = .ok (.ifCond .le 7, 3) := by decide +kernel
theorem dX6_global_26 : decode cX6_global 26 = .ok (.iconst 0, 1) := by decide +kernel
theorem dX6_global_27 : decode cX6_global 27 = .ok (.goto 9, 3) := by decide +kernel
theorem dX6_global_30 : decode cX6_global 30 = .ok (.aload_n 0, 1) := by decide +kernel
theorem dX6_global_31 : decode cX6_global 31 = .ok (.getfield 73, 3) := by decide +kernel
theorem dX6_global_34 : decode cX6_global 34 = .ok (.iload_n 1, 1) := by decide +kernel
theorem dX6_global_35 : decode cX6_global 35 = .ok (.iaload, 1) := by decide +kernel
theorem dX6_global_36 : decode cX6_global 36 = .ok (.ireturn, 1) := by decide +kernel
theorem dX6_array_0 : decode cX6_array 0 = .ok (.aload_n 0, 1) := by decide +kernel
theorem dX6_array_1 : decode cX6_array 1 = .ok (.iload_n 1, 1) := by decide +kernel
theorem dX6_array_2 : decode cX6_array 2 = .ok (.ifCond .lt 18, 3) := by decide +kernel
theorem dX6_array_5 : decode cX6_array 5 = .ok (.iload_n 1, 1) := by decide +kernel
theorem dX6_array_6 : decode cX6_array 6 = .ok (.iconst 3, 1) := by decide +kernel
theorem dX6_array_7 : decode cX6_array 7 = .ok (.if_icmp .gt 13, 3) := by decide +kernel
theorem dX6_array_10 : decode cX6_array 10 = .ok (.iload_n 2, 1) := by decide +kernel
theorem dX6_array_11 : decode cX6_array 11 = .ok (.ifCond .lt 9, 3) := by decide +kernel
theorem dX6_array_14 : decode cX6_array 14 = .ok (.iload_n 2, 1) := by decide +kernel
theorem dX6_array_15 : decode cX6_array 15 = .ok (.bipush 7, 2) := by decide +kernel
theorem dX6_array_17 : decode cX6_array 17 = .ok (.if_icmp .le 7, 3) := by decide +kernel
theorem dX6_array_20 : decode cX6_array 20 = .ok (.iconst 1, 1) := by decide +kernel
theorem dX6_array_21 : decode cX6_array 21 = .ok (.goto 4, 3) := by decide +kernel
theorem dX6_array_24 : decode cX6_array 24 = .ok (.iconst 0, 1) := by decide +kernel
theorem dX6_array_25 : decode cX6_array 25 = .ok (.putfield 97, 3) := by decide +kernel
theorem dX6_array_28 : decode cX6_array 28 = .ok (.aload_n 0, 1) := by decide +kernel
theorem dX6_array_29 : decode cX6_array 29 = .ok (.getfield 97, 3) := by decide +kernel
theorem dX6_array_32 : decode cX6_array 32 = .ok (.ifCond .le 7, 3) := by decide +kernel
theorem dX6_array_35 : decode cX6_array 35 = .ok (.iconst 0, 1) := by decide +kernel
theorem dX6_array_36 : decode cX6_array 36 = .ok (.goto 14, 3) := by decide +kernel
theorem dX6_array_39 : decode cX6_array 39 = .ok (.aload_n 0, 1) := by decide +kernel
theorem dX6_array_40 : decode cX6_array 40 = .ok (.getfield 76, 3) := by decide +kernel
theorem dX6_array_43 : decode cX6_array 43 = .ok (.bipush 8, 2) := by decide +kernel
theorem dX6_array_45 : decode cX6_array 45 = .ok (.iload_n 1, 1) := by decide +kernel
theorem dX6_array_46 : decode cX6_array 46 = .ok (.imul, 1) := by decide +kernel
theorem dX6_array_47 : decode cX6_array 47 = .ok (.iload_n 2, 1) := by decide +kernel
theorem dX6_array_48 : decode cX6_array 48 = .ok (.iadd, 1) := by decide +kernel
theorem dX6_array_49 : decode cX6_array 49 = .ok (.iaload, 1) := by decide +kernel
theorem dX6_array_50 : decode cX6_array 50 = .ok (.ireturn, 1) := by decide +kernel
theorem dX6_about_0 : decode cX6_about 0 = .ok (.aload_n 0, 1) := by decide +kernel
theorem dX6_about_1 : decode cX6_about 1 = .ok (.iconst 0, 1) := by decide +kernel
theorem dX6_about_2 : decode cX6_about 2 = .ok (.putfield 97, 3) := by decide +kernel
theorem dX6_about_5 : decode cX6_about 5 = .ok (.iload_n 1, 1) := by decide +kernel
theorem dX6_about_6 : decode cX6_about 6 = .ok (.tableswitch 77 0 6 #[42, 47, 52, 57, 62, 67, 72], 42) := by decide +kernel
theorem dX6_about_48 : decode cX6_about 48 = .ok (.aload_n 0, 1) := by decide +kernel
theorem dX6_about_49 : decode cX6_about 49 = .ok (.getfield 233, 3) := by decide +kernel
theorem dX6_about_52 : decode cX6_about 52 = .ok (.ireturn, 1) := by decide +kernel
theorem dX6_about_53 : decode cX6_about 53 = .ok (.aload_n 0, 1) := by decide +kernel
theorem dX6_about_54 : decode cX6_about 54 = .ok (.getfield 101, 3) := by decide +kernel
theorem dX6_about_57 : decode cX6_about 57 = .ok (.ireturn, 1) := by decide +kernel
theorem dX6_about_58 : decode cX6_about 58 = .ok (.aload_n 0, 1) := by decide +kernel
theorem dX6_about_59 : decode cX6_about 59 = .ok (.getfield 230, 3) := by decide +kernel
theorem dX6_about_62 : decode cX6_about 62 = .ok (.ireturn, 1) := by decide +kernel
theorem dX6_about_63 : decode cX6_about 63 = .ok (.aload_n 0, 1) := by decide +kernel
theorem dX6_about_64 : decode cX6_about 64 = .ok (.getfield 218, 3) := by decide +kernel
theorem dX6_about_67 : decode cX6_about 67 = .ok (.ireturn, 1) := by decide +kernel
theorem dX6_about_68 : decode cX6_about 68 = .ok (.aload_n 0, 1) := by decide +kernel
theorem dX6_about_69 : decode cX6_about 69 = .ok (.getfield 215, 3) := by decide +kernel
theorem dX6_about_72 : decode cX6_about 72 = .ok (.ireturn, 1) := by decide +kernel
theorem dX6_about_73 : decode cX6_about 73 = .ok (.aload_n 0, 1) := by decide +kernel
theorem dX6_about_74 : decode cX6_about 74 = .ok (.getfield 245, 3) := by decide +kernel
theorem dX6_about_77 : decode cX6_about 77 = .ok (.ireturn, 1) := by decide +kernel
theorem dX6_about_78 : decode cX6_about 78 = .ok (.aload_n 0, 1) := by decide +kernel
theorem dX6_about_79 : decode cX6_about 79 = .ok (.getfield 221, 3) := by decide +kernel
theorem dX6_about_82 : decode cX6_about 82 = .ok (.ireturn, 1) := by decide +kernel
theorem dX6_about_83 : decode cX6_about 83 = .ok (.iconst (-1), 1) := by decide +kernel
theorem dX6_about_84 : decode cX6_about 84 = .ok (.ireturn, 1) := by decide +kernel
end
section
/-- the words of the tables that last -/
def wg : List Cond := lw_tbl.filter goodWord
theorem wg_of {w : Cond} (h : w ∈ lw_tbl) (g : goodWord w = true) : w ∈ wg := List.mem_filter.mpr ⟨h, g⟩
theorem wI_L : Cond.initialized RL ∈ wg := wg_of (List.mem_of_getElem? (i := 71) (by decide +kernel)) (by decide +kernel)
theorem wI_X5 : Cond.initialized RX5 ∈ wg := wg_of (List.mem_of_getElem? (i := 72) (by decide +kernel)) (by decide +kernel)
theorem wI_X4 : Cond.initialized RX4 ∈ wg := wg_of (List.mem_of_getElem? (i := 73) (by decide +kernel)) (by decide +kernel)
theorem wI_X1 : Cond.initialized RX1 ∈ wg := wg_of (List.mem_of_getElem? (i := 74) (by decide +kernel)) (by decide +kernel)
theorem wI_X3 : Cond.initialized RX3 ∈ wg := wg_of (List.mem_of_getElem? (i := 75) (by decide +kernel)) (by decide +kernel)
theorem wI_X0 : Cond.initialized RX0 ∈ wg := wg_of (List.mem_of_getElem? (i := 76) (by decide +kernel)) (by decide +kernel)
theorem wI_X2 : Cond.initialized RX2 ∈ wg := wg_of (List.mem_of_getElem? (i := 77) (by decide +kernel)) (by decide +kernel)
theorem wI_X6 : Cond.initialized RX6 ∈ wg := wg_of (List.mem_of_getElem? (i := 78) (by decide +kernel)) (by decide +kernel)
theorem wL_L_8 : Cond.classLink RL 8 RX5 ∈ wg := wg_of (List.mem_of_getElem? (i := 85) (by decide +kernel)) (by decide +kernel)
theorem wT_X5 : Cond.instantiable RX5 6 ∈ wg := wg_of (List.mem_of_getElem? (i := 86) (by decide +kernel)) (by decide +kernel)
theorem wM_L_39 : Cond.methodLink RL 39 yX5_init ∈ wg := wg_of (List.mem_of_getElem? (i := 87) (by decide +kernel)) (by decide +kernel)
theorem wN_X5_init : Cond.instanceMethod yX5_init ∈ wg := wg_of (List.mem_of_getElem? (i := 88) (by decide +kernel)) (by decide +kernel)
theorem wC_X5_init : Cond.code yX5_init cX5_init 1 none ∈ wg := wg_of (List.mem_of_getElem? (i := 89) (by decide +kernel)) (by decide +kernel)
theorem wL_X5_7 : Cond.classLink RX5 7 RX4 ∈ wg := wg_of (List.mem_of_getElem? (i := 93) (by decide +kernel)) (by decide +kernel)
theorem wT_X4 : Cond.instantiable RX4 2 ∈ wg := wg_of (List.mem_of_getElem? (i := 94) (by decide +kernel)) (by decide +kernel)
theorem wN_X4_init : Cond.instanceMethod yX4_init ∈ wg := wg_of (List.mem_of_getElem? (i := 96) (by decide +kernel)) (by decide +kernel)
theorem wC_X4_init : Cond.code yX4_init cX4_init 1 none ∈ wg := wg_of (List.mem_of_getElem? (i := 97) (by decide +kernel)) (by decide +kernel)
theorem wF_X4_9 : Cond.fieldLink RX4 9 RX4 "tokens" "[I" ∈ wg := wg_of (List.mem_of_getElem? (i := 99) (by decide +kernel)) (by decide +kernel)
theorem wF_X4_15 : Cond.fieldLink RX4 15 RX4 "length" "I" ∈ wg := wg_of (List.mem_of_getElem? (i := 100) (by decide +kernel)) (by decide +kernel)
theorem wL_X5_16 : Cond.classLink RX5 16 RX1 ∈ wg := wg_of (List.mem_of_getElem? (i := 107) (by decide +kernel)) (by decide +kernel)
theorem wT_X1 : Cond.instantiable RX1 3 ∈ wg := wg_of (List.mem_of_getElem? (i := 108) (by decide +kernel)) (by decide +kernel)
theorem wN_X1_init : Cond.instanceMethod yX1_init ∈ wg := wg_of (List.mem_of_getElem? (i := 110) (by decide +kernel)) (by decide +kernel)
theorem wC_X1_init : Cond.code yX1_init cX1_init 1 none ∈ wg := wg_of (List.mem_of_getElem? (i := 111) (by decide +kernel)) (by decide +kernel)
theorem wF_X1_9 : Cond.fieldLink RX1 9 RX1 "ring" "[I" ∈ wg := wg_of (List.mem_of_getElem? (i := 113) (by decide +kernel)) (by decide +kernel)
theorem wF_X1_13 : Cond.fieldLink RX1 13 RX1 "first" "I" ∈ wg := wg_of (List.mem_of_getElem? (i := 114) (by decide +kernel)) (by decide +kernel)
theorem wF_X1_17 : Cond.fieldLink RX1 17 RX1 "count" "I" ∈ wg := wg_of (List.mem_of_getElem? (i := 115) (by decide +kernel)) (by decide +kernel)
theorem wL_X5_23 : Cond.classLink RX5 23 RX3 ∈ wg := wg_of (List.mem_of_getElem? (i := 123) (by decide +kernel)) (by decide +kernel)
theorem wT_X3 : Cond.instantiable RX3 6 ∈ wg := wg_of (List.mem_of_getElem? (i := 124) (by decide +kernel)) (by decide +kernel)
theorem wN_X3_init : Cond.instanceMethod yX3_init ∈ wg := wg_of (List.mem_of_getElem? (i := 126) (by decide +kernel)) (by decide +kernel)
theorem wC_X3_init : Cond.code yX3_init cX3_init 1 none ∈ wg := wg_of (List.mem_of_getElem? (i := 127) (by decide +kernel)) (by decide +kernel)
theorem wF_X3_9 : Cond.fieldLink RX3 9 RX3 "steps" "[I" ∈ wg := wg_of (List.mem_of_getElem? (i := 129) (by decide +kernel)) (by decide +kernel)
theorem wF_X3_15 : Cond.fieldLink RX3 15 RX3 "operands" "[I" ∈ wg := wg_of (List.mem_of_getElem? (i := 130) (by decide +kernel)) (by decide +kernel)
theorem wF_X3_18 : Cond.fieldLink RX3 18 RX3 "entries" "[I" ∈ wg := wg_of (List.mem_of_getElem? (i := 131) (by decide +kernel)) (by decide +kernel)
theorem wF_X3_21 : Cond.fieldLink RX3 21 RX3 "signs" "[I" ∈ wg := wg_of (List.mem_of_getElem? (i := 132) (by decide +kernel)) (by decide +kernel)
theorem wF_X3_24 : Cond.fieldLink RX3 24 RX3 "length" "I" ∈ wg := wg_of (List.mem_of_getElem? (i := 133) (by decide +kernel)) (by decide +kernel)
theorem wF_X3_28 : Cond.fieldLink RX3 28 RX3 "functions" "I" ∈ wg := wg_of (List.mem_of_getElem? (i := 134) (by decide +kernel)) (by decide +kernel)
theorem wL_X5_33 : Cond.classLink RX5 33 RX0 ∈ wg := wg_of (List.mem_of_getElem? (i := 148) (by decide +kernel)) (by decide +kernel)
theorem wT_X0 : Cond.instantiable RX0 6 ∈ wg := wg_of (List.mem_of_getElem? (i := 149) (by decide +kernel)) (by decide +kernel)
theorem wM_X5_35 : Cond.methodLink RX5 35 yX0_init ∈ wg := wg_of (List.mem_of_getElem? (i := 150) (by decide +kernel)) (by decide +kernel)
theorem wN_X0_init : Cond.instanceMethod yX0_init ∈ wg := wg_of (List.mem_of_getElem? (i := 151) (by decide +kernel)) (by decide +kernel)
theorem wC_X0_init : Cond.code yX0_init cX0_init 3 none ∈ wg := wg_of (List.mem_of_getElem? (i := 152) (by decide +kernel)) (by decide +kernel)
theorem wF_X0_25 : Cond.fieldLink RX0 25 RX0 "text" "LShortMill$Text;" ∈ wg := wg_of (List.mem_of_getElem? (i := 154) (by decide +kernel)) (by decide +kernel)
theorem wF_X0_29 : Cond.fieldLink RX0 29 RX0 "draft" "LShortMill$Program;" ∈ wg := wg_of (List.mem_of_getElem? (i := 155) (by decide +kernel)) (by decide +kernel)
theorem wF_X0_9 : Cond.fieldLink RX0 9 RX0 "arguments" "[I" ∈ wg := wg_of (List.mem_of_getElem? (i := 156) (by decide +kernel)) (by decide +kernel)
theorem wF_X0_15 : Cond.fieldLink RX0 15 RX0 "place" "I" ∈ wg := wg_of (List.mem_of_getElem? (i := 157) (by decide +kernel)) (by decide +kernel)
theorem wF_X0_19 : Cond.fieldLink RX0 19 RX0 "error" "I" ∈ wg := wg_of (List.mem_of_getElem? (i := 158) (by decide +kernel)) (by decide +kernel)
theorem wF_X0_22 : Cond.fieldLink RX0 22 RX0 "errorPlace" "I" ∈ wg := wg_of (List.mem_of_getElem? (i := 159) (by decide +kernel)) (by decide +kernel)
theorem wL_X5_42 : Cond.classLink RX5 42 RX2 ∈ wg := wg_of (List.mem_of_getElem? (i := 173) (by decide +kernel)) (by decide +kernel)
theorem wT_X2 : Cond.instantiable RX2 14 ∈ wg := wg_of (List.mem_of_getElem? (i := 174) (by decide +kernel)) (by decide +kernel)
theorem wM_X5_44 : Cond.methodLink RX5 44 yX2_init ∈ wg := wg_of (List.mem_of_getElem? (i := 175) (by decide +kernel)) (by decide +kernel)
theorem wN_X2_init : Cond.instanceMethod yX2_init ∈ wg := wg_of (List.mem_of_getElem? (i := 176) (by decide +kernel)) (by decide +kernel)
theorem wC_X2_init : Cond.code yX2_init cX2_init 3 none ∈ wg := wg_of (List.mem_of_getElem? (i := 177) (by decide +kernel)) (by decide +kernel)
theorem wF_X2_49 : Cond.fieldLink RX2 49 RX2 "program" "LShortMill$Program;" ∈ wg := wg_of (List.mem_of_getElem? (i := 179) (by decide +kernel)) (by decide +kernel)
theorem wF_X2_53 : Cond.fieldLink RX2 53 RX2 "keys" "LShortMill$Keys;" ∈ wg := wg_of (List.mem_of_getElem? (i := 180) (by decide +kernel)) (by decide +kernel)
theorem wF_X2_11 : Cond.fieldLink RX2 11 RX2 "globals" "[I" ∈ wg := wg_of (List.mem_of_getElem? (i := 181) (by decide +kernel)) (by decide +kernel)
theorem wF_X2_15 : Cond.fieldLink RX2 15 RX2 "places" "[I" ∈ wg := wg_of (List.mem_of_getElem? (i := 182) (by decide +kernel)) (by decide +kernel)
theorem wF_X2_18 : Cond.fieldLink RX2 18 RX2 "locals" "[I" ∈ wg := wg_of (List.mem_of_getElem? (i := 183) (by decide +kernel)) (by decide +kernel)
theorem wF_X2_21 : Cond.fieldLink RX2 21 RX2 "returns" "[I" ∈ wg := wg_of (List.mem_of_getElem? (i := 184) (by decide +kernel)) (by decide +kernel)
theorem wF_X2_24 : Cond.fieldLink RX2 24 RX2 "stack" "[I" ∈ wg := wg_of (List.mem_of_getElem? (i := 185) (by decide +kernel)) (by decide +kernel)
theorem wF_X2_27 : Cond.fieldLink RX2 27 RX2 "kept" "[I" ∈ wg := wg_of (List.mem_of_getElem? (i := 186) (by decide +kernel)) (by decide +kernel)
theorem wF_X2_30 : Cond.fieldLink RX2 30 RX2 "state" "I" ∈ wg := wg_of (List.mem_of_getElem? (i := 187) (by decide +kernel)) (by decide +kernel)
theorem wF_X2_34 : Cond.fieldLink RX2 34 RX2 "begun" "I" ∈ wg := wg_of (List.mem_of_getElem? (i := 188) (by decide +kernel)) (by decide +kernel)
theorem wF_X2_37 : Cond.fieldLink RX2 37 RX2 "shown" "I" ∈ wg := wg_of (List.mem_of_getElem? (i := 189) (by decide +kernel)) (by decide +kernel)
theorem wF_X2_40 : Cond.fieldLink RX2 40 RX2 "running" "I" ∈ wg := wg_of (List.mem_of_getElem? (i := 190) (by decide +kernel)) (by decide +kernel)
theorem wF_X2_43 : Cond.fieldLink RX2 43 RX2 "top" "I" ∈ wg := wg_of (List.mem_of_getElem? (i := 191) (by decide +kernel)) (by decide +kernel)
theorem wF_X2_46 : Cond.fieldLink RX2 46 RX2 "place" "I" ∈ wg := wg_of (List.mem_of_getElem? (i := 192) (by decide +kernel)) (by decide +kernel)
theorem wF_X5_10 : Cond.fieldLink RX5 10 RX5 "text" "LShortMill$Text;" ∈ wg := wg_of (List.mem_of_getElem? (i := 222) (by decide +kernel)) (by decide +kernel)
theorem wF_X5_19 : Cond.fieldLink RX5 19 RX5 "keys" "LShortMill$Keys;" ∈ wg := wg_of (List.mem_of_getElem? (i := 223) (by decide +kernel)) (by decide +kernel)
theorem wF_X5_26 : Cond.fieldLink RX5 26 RX5 "program" "LShortMill$Program;" ∈ wg := wg_of (List.mem_of_getElem? (i := 224) (by decide +kernel)) (by decide +kernel)
theorem wF_X5_30 : Cond.fieldLink RX5 30 RX5 "draft" "LShortMill$Program;" ∈ wg := wg_of (List.mem_of_getElem? (i := 225) (by decide +kernel)) (by decide +kernel)
theorem wF_X5_38 : Cond.fieldLink RX5 38 RX5 "grammar" "LShortMill$Grammar;" ∈ wg := wg_of (List.mem_of_getElem? (i := 226) (by decide +kernel)) (by decide +kernel)
theorem wF_X5_47 : Cond.fieldLink RX5 47 RX5 "machine" "LShortMill$Machine;" ∈ wg := wg_of (List.mem_of_getElem? (i := 227) (by decide +kernel)) (by decide +kernel)
theorem wM_L_53 : Cond.methodLink RL 53 yX5_compile ∈ wg := wg_of (List.mem_of_getElem? (i := 241) (by decide +kernel)) (by decide +kernel)
theorem wN_X5_compile : Cond.instanceMethod yX5_compile ∈ wg := wg_of (List.mem_of_getElem? (i := 242) (by decide +kernel)) (by decide +kernel)
theorem wV_X5_compile : Cond.selects RX5 yX5_compile yX5_compile ∈ wg := wg_of (List.mem_of_getElem? (i := 243) (by decide +kernel)) (by decide +kernel)
theorem wC_X5_compile : Cond.code yX5_compile cX5_compile 2 (some .int) ∈ wg := wg_of (List.mem_of_getElem? (i := 244) (by decide +kernel)) (by decide +kernel)
theorem wM_X5_77 : Cond.methodLink RX5 77 yX0_fault ∈ wg := wg_of (List.mem_of_getElem? (i := 245) (by decide +kernel)) (by decide +kernel)
theorem wN_X0_fault : Cond.instanceMethod yX0_fault ∈ wg := wg_of (List.mem_of_getElem? (i := 246) (by decide +kernel)) (by decide +kernel)
theorem wV_X0_fault : Cond.selects RX0 yX0_fault yX0_fault ∈ wg := wg_of (List.mem_of_getElem? (i := 247) (by decide +kernel)) (by decide +kernel)
theorem wC_X0_fault : Cond.code yX0_fault cX0_fault 2 (some .int) ∈ wg := wg_of (List.mem_of_getElem? (i := 248) (by decide +kernel)) (by decide +kernel)
theorem wM_X0_33 : Cond.methodLink RX0 33 yX0_clear ∈ wg := wg_of (List.mem_of_getElem? (i := 249) (by decide +kernel)) (by decide +kernel)
theorem wN_X0_clear : Cond.instanceMethod yX0_clear ∈ wg := wg_of (List.mem_of_getElem? (i := 251) (by decide +kernel)) (by decide +kernel)
theorem wC_X0_clear : Cond.code yX0_clear cX0_clear 2 none ∈ wg := wg_of (List.mem_of_getElem? (i := 252) (by decide +kernel)) (by decide +kernel)
theorem wM_X0_61 : Cond.methodLink RX0 61 yX3_clear ∈ wg := wg_of (List.mem_of_getElem? (i := 253) (by decide +kernel)) (by decide +kernel)
theorem wN_X3_clear : Cond.instanceMethod yX3_clear ∈ wg := wg_of (List.mem_of_getElem? (i := 254) (by decide +kernel)) (by decide +kernel)
theorem wV_X3_clear : Cond.selects RX3 yX3_clear yX3_clear ∈ wg := wg_of (List.mem_of_getElem? (i := 255) (by decide +kernel)) (by decide +kernel)
theorem wC_X3_clear : Cond.code yX3_clear cX3_clear 2 none ∈ wg := wg_of (List.mem_of_getElem? (i := 256) (by decide +kernel)) (by decide +kernel)
theorem wM_X0_36 : Cond.methodLink RX0 36 yX0_now ∈ wg := wg_of (List.mem_of_getElem? (i := 257) (by decide +kernel)) (by decide +kernel)
theorem wN_X0_now : Cond.instanceMethod yX0_now ∈ wg := wg_of (List.mem_of_getElem? (i := 259) (by decide +kernel)) (by decide +kernel)
theorem wC_X0_now : Cond.code yX0_now cX0_now 1 (some .int) ∈ wg := wg_of (List.mem_of_getElem? (i := 260) (by decide +kernel)) (by decide +kernel)
theorem wM_X0_62 : Cond.methodLink RX0 62 yX4_at ∈ wg := wg_of (List.mem_of_getElem? (i := 261) (by decide +kernel)) (by decide +kernel)
theorem wN_X4_at : Cond.instanceMethod yX4_at ∈ wg := wg_of (List.mem_of_getElem? (i := 262) (by decide +kernel)) (by decide +kernel)
theorem wV_X4_at : Cond.selects RX4 yX4_at yX4_at ∈ wg := wg_of (List.mem_of_getElem? (i := 263) (by decide +kernel)) (by decide +kernel)
theorem wC_X4_at : Cond.code yX4_at cX4_at 2 (some .int) ∈ wg := wg_of (List.mem_of_getElem? (i := 264) (by decide +kernel)) (by decide +kernel)
theorem wM_X0_42 : Cond.methodLink RX0 42 yX0_readFunction ∈ wg := wg_of (List.mem_of_getElem? (i := 265) (by decide +kernel)) (by decide +kernel)
theorem wN_X0_readFunction : Cond.instanceMethod yX0_readFunction ∈ wg := wg_of (List.mem_of_getElem? (i := 267) (by decide +kernel)) (by decide +kernel)
theorem wC_X0_readFunction : Cond.code yX0_readFunction cX0_readFunction 3 none ∈ wg := wg_of (List.mem_of_getElem? (i := 268) (by decide +kernel)) (by decide +kernel)
theorem wM_X0_65 : Cond.methodLink RX0 65 yX0_expect ∈ wg := wg_of (List.mem_of_getElem? (i := 269) (by decide +kernel)) (by decide +kernel)
theorem wN_X0_expect : Cond.instanceMethod yX0_expect ∈ wg := wg_of (List.mem_of_getElem? (i := 271) (by decide +kernel)) (by decide +kernel)
theorem wC_X0_expect : Cond.code yX0_expect cX0_expect 2 none ∈ wg := wg_of (List.mem_of_getElem? (i := 272) (by decide +kernel)) (by decide +kernel)
theorem wM_X0_57 : Cond.methodLink RX0 57 yX0_fail ∈ wg := wg_of (List.mem_of_getElem? (i := 273) (by decide +kernel)) (by decide +kernel)
theorem wN_X0_fail : Cond.instanceMethod yX0_fail ∈ wg := wg_of (List.mem_of_getElem? (i := 275) (by decide +kernel)) (by decide +kernel)
theorem wC_X0_fail : Cond.code yX0_fail cX0_fail 2 none ∈ wg := wg_of (List.mem_of_getElem? (i := 276) (by decide +kernel)) (by decide +kernel)
theorem wM_X0_51 : Cond.methodLink RX0 51 yX3_parametersOf ∈ wg := wg_of (List.mem_of_getElem? (i := 277) (by decide +kernel)) (by decide +kernel)
theorem wN_X3_parametersOf : Cond.instanceMethod yX3_parametersOf ∈ wg := wg_of (List.mem_of_getElem? (i := 278) (by decide +kernel)) (by decide +kernel)
theorem wV_X3_parametersOf : Cond.selects RX3 yX3_parametersOf yX3_parametersOf ∈ wg := wg_of (List.mem_of_getElem? (i := 279) (by decide +kernel)) (by decide +kernel)
theorem wC_X3_parametersOf : Cond.code yX3_parametersOf cX3_parametersOf 2 (some .int) ∈ wg := wg_of (List.mem_of_getElem? (i := 280) (by decide +kernel)) (by decide +kernel)
theorem wM_X0_68 : Cond.methodLink RX0 68 yX0_next ∈ wg := wg_of (List.mem_of_getElem? (i := 281) (by decide +kernel)) (by decide +kernel)
theorem wN_X0_next : Cond.instanceMethod yX0_next ∈ wg := wg_of (List.mem_of_getElem? (i := 283) (by decide +kernel)) (by decide +kernel)
theorem wC_X0_next : Cond.code yX0_next cX0_next 1 none ∈ wg := wg_of (List.mem_of_getElem? (i := 284) (by decide +kernel)) (by decide +kernel)
theorem wM_X0_71 : Cond.methodLink RX0 71 yX3_addFunction ∈ wg := wg_of (List.mem_of_getElem? (i := 285) (by decide +kernel)) (by decide +kernel)
theorem wN_X3_addFunction : Cond.instanceMethod yX3_addFunction ∈ wg := wg_of (List.mem_of_getElem? (i := 286) (by decide +kernel)) (by decide +kernel)
theorem wV_X3_addFunction : Cond.selects RX3 yX3_addFunction yX3_addFunction ∈ wg := wg_of (List.mem_of_getElem? (i := 287) (by decide +kernel)) (by decide +kernel)
theorem wC_X3_addFunction : Cond.code yX3_addFunction cX3_addFunction 3 none ∈ wg := wg_of (List.mem_of_getElem? (i := 288) (by decide +kernel)) (by decide +kernel)
theorem wM_X0_75 : Cond.methodLink RX0 75 yX0_readBlock ∈ wg := wg_of (List.mem_of_getElem? (i := 289) (by decide +kernel)) (by decide +kernel)
theorem wN_X0_readBlock : Cond.instanceMethod yX0_readBlock ∈ wg := wg_of (List.mem_of_getElem? (i := 291) (by decide +kernel)) (by decide +kernel)
theorem wC_X0_readBlock : Cond.code yX0_readBlock cX0_readBlock 3 none ∈ wg := wg_of (List.mem_of_getElem? (i := 292) (by decide +kernel)) (by decide +kernel)
theorem wM_X0_82 : Cond.methodLink RX0 82 yX0_readStatement ∈ wg := wg_of (List.mem_of_getElem? (i := 293) (by decide +kernel)) (by decide +kernel)
theorem wN_X0_readStatement : Cond.instanceMethod yX0_readStatement ∈ wg := wg_of (List.mem_of_getElem? (i := 295) (by decide +kernel)) (by decide +kernel)
theorem wC_X0_readStatement : Cond.code yX0_readStatement cX0_readStatement 4 none ∈ wg := wg_of (List.mem_of_getElem? (i := 296) (by decide +kernel)) (by decide +kernel)
theorem wM_X0_78 : Cond.methodLink RX0 78 yX3_add ∈ wg := wg_of (List.mem_of_getElem? (i := 297) (by decide +kernel)) (by decide +kernel)
theorem wN_X3_add : Cond.instanceMethod yX3_add ∈ wg := wg_of (List.mem_of_getElem? (i := 298) (by decide +kernel)) (by decide +kernel)
theorem wV_X3_add : Cond.selects RX3 yX3_add yX3_add ∈ wg := wg_of (List.mem_of_getElem? (i := 299) (by decide +kernel)) (by decide +kernel)
theorem wC_X3_add : Cond.code yX3_add cX3_add 4 (some .int) ∈ wg := wg_of (List.mem_of_getElem? (i := 300) (by decide +kernel)) (by decide +kernel)
theorem wM_X0_85 : Cond.methodLink RX0 85 yX0_readIf ∈ wg := wg_of (List.mem_of_getElem? (i := 301) (by decide +kernel)) (by decide +kernel)
theorem wN_X0_readIf : Cond.instanceMethod yX0_readIf ∈ wg := wg_of (List.mem_of_getElem? (i := 303) (by decide +kernel)) (by decide +kernel)
theorem wC_X0_readIf : Cond.code yX0_readIf cX0_readIf 4 none ∈ wg := wg_of (List.mem_of_getElem? (i := 304) (by decide +kernel)) (by decide +kernel)
theorem wM_X0_104 : Cond.methodLink RX0 104 yX0_readChoice ∈ wg := wg_of (List.mem_of_getElem? (i := 305) (by decide +kernel)) (by decide +kernel)
theorem wN_X0_readChoice : Cond.instanceMethod yX0_readChoice ∈ wg := wg_of (List.mem_of_getElem? (i := 307) (by decide +kernel)) (by decide +kernel)
theorem wC_X0_readChoice : Cond.code yX0_readChoice cX0_readChoice 1 none ∈ wg := wg_of (List.mem_of_getElem? (i := 308) (by decide +kernel)) (by decide +kernel)
theorem wM_X0_110 : Cond.methodLink RX0 110 yX0_readValue ∈ wg := wg_of (List.mem_of_getElem? (i := 309) (by decide +kernel)) (by decide +kernel)
theorem wN_X0_readValue : Cond.instanceMethod yX0_readValue ∈ wg := wg_of (List.mem_of_getElem? (i := 311) (by decide +kernel)) (by decide +kernel)
theorem wC_X0_readValue : Cond.code yX0_readValue cX0_readValue 3 none ∈ wg := wg_of (List.mem_of_getElem? (i := 312) (by decide +kernel)) (by decide +kernel)
theorem wM_X0_116 : Cond.methodLink RX0 116 yX0_readSum ∈ wg := wg_of (List.mem_of_getElem? (i := 313) (by decide +kernel)) (by decide +kernel)
theorem wN_X0_readSum : Cond.instanceMethod yX0_readSum ∈ wg := wg_of (List.mem_of_getElem? (i := 315) (by decide +kernel)) (by decide +kernel)
theorem wC_X0_readSum : Cond.code yX0_readSum cX0_readSum 4 none ∈ wg := wg_of (List.mem_of_getElem? (i := 316) (by decide +kernel)) (by decide +kernel)
theorem wM_X0_119 : Cond.methodLink RX0 119 yX0_readProduct ∈ wg := wg_of (List.mem_of_getElem? (i := 317) (by decide +kernel)) (by decide +kernel)
theorem wN_X0_readProduct : Cond.instanceMethod yX0_readProduct ∈ wg := wg_of (List.mem_of_getElem? (i := 319) (by decide +kernel)) (by decide +kernel)
theorem wC_X0_readProduct : Cond.code yX0_readProduct cX0_readProduct 4 none ∈ wg := wg_of (List.mem_of_getElem? (i := 320) (by decide +kernel)) (by decide +kernel)
theorem wM_X0_122 : Cond.methodLink RX0 122 yX0_readPart ∈ wg := wg_of (List.mem_of_getElem? (i := 321) (by decide +kernel)) (by decide +kernel)
theorem wN_X0_readPart : Cond.instanceMethod yX0_readPart ∈ wg := wg_of (List.mem_of_getElem? (i := 323) (by decide +kernel)) (by decide +kernel)
theorem wC_X0_readPart : Cond.code yX0_readPart cX0_readPart 3 none ∈ wg := wg_of (List.mem_of_getElem? (i := 324) (by decide +kernel)) (by decide +kernel)
theorem wM_X0_125 : Cond.methodLink RX0 125 yX0_readPiece ∈ wg := wg_of (List.mem_of_getElem? (i := 325) (by decide +kernel)) (by decide +kernel)
theorem wN_X0_readPiece : Cond.instanceMethod yX0_readPiece ∈ wg := wg_of (List.mem_of_getElem? (i := 327) (by decide +kernel)) (by decide +kernel)
theorem wC_X0_readPiece : Cond.code yX0_readPiece cX0_readPiece 3 none ∈ wg := wg_of (List.mem_of_getElem? (i := 328) (by decide +kernel)) (by decide +kernel)
theorem wM_X0_94 : Cond.methodLink RX0 94 yX0_isOf ∈ wg := wg_of (List.mem_of_getElem? (i := 329) (by decide +kernel)) (by decide +kernel)
theorem wS_X0_isOf : Cond.static yX0_isOf ∈ wg := wg_of (List.mem_of_getElem? (i := 330) (by decide +kernel)) (by decide +kernel)
theorem wC_X0_isOf : Cond.code yX0_isOf cX0_isOf 3 (some .boolean) ∈ wg := wg_of (List.mem_of_getElem? (i := 331) (by decide +kernel)) (by decide +kernel)
theorem wM_X0_98 : Cond.methodLink RX0 98 yX0_readCall ∈ wg := wg_of (List.mem_of_getElem? (i := 332) (by decide +kernel)) (by decide +kernel)
theorem wN_X0_readCall : Cond.instanceMethod yX0_readCall ∈ wg := wg_of (List.mem_of_getElem? (i := 334) (by decide +kernel)) (by decide +kernel)
theorem wC_X0_readCall : Cond.code yX0_readCall cX0_readCall 5 none ∈ wg := wg_of (List.mem_of_getElem? (i := 335) (by decide +kernel)) (by decide +kernel)
theorem wM_X0_113 : Cond.methodLink RX0 113 yX0_readIndex ∈ wg := wg_of (List.mem_of_getElem? (i := 336) (by decide +kernel)) (by decide +kernel)
theorem wN_X0_readIndex : Cond.instanceMethod yX0_readIndex ∈ wg := wg_of (List.mem_of_getElem? (i := 338) (by decide +kernel)) (by decide +kernel)
theorem wC_X0_readIndex : Cond.code yX0_readIndex cX0_readIndex 2 none ∈ wg := wg_of (List.mem_of_getElem? (i := 339) (by decide +kernel)) (by decide +kernel)
theorem wM_X0_128 : Cond.methodLink RX0 128 yX0_readSingle ∈ wg := wg_of (List.mem_of_getElem? (i := 340) (by decide +kernel)) (by decide +kernel)
theorem wN_X0_readSingle : Cond.instanceMethod yX0_readSingle ∈ wg := wg_of (List.mem_of_getElem? (i := 342) (by decide +kernel)) (by decide +kernel)
theorem wC_X0_readSingle : Cond.code yX0_readSingle cX0_readSingle 2 none ∈ wg := wg_of (List.mem_of_getElem? (i := 343) (by decide +kernel)) (by decide +kernel)
theorem wM_X0_107 : Cond.methodLink RX0 107 yX3_aim ∈ wg := wg_of (List.mem_of_getElem? (i := 344) (by decide +kernel)) (by decide +kernel)
theorem wN_X3_aim : Cond.instanceMethod yX3_aim ∈ wg := wg_of (List.mem_of_getElem? (i := 345) (by decide +kernel)) (by decide +kernel)
theorem wV_X3_aim : Cond.selects RX3 yX3_aim yX3_aim ∈ wg := wg_of (List.mem_of_getElem? (i := 346) (by decide +kernel)) (by decide +kernel)
theorem wC_X3_aim : Cond.code yX3_aim cX3_aim 2 none ∈ wg := wg_of (List.mem_of_getElem? (i := 347) (by decide +kernel)) (by decide +kernel)
theorem wM_X0_88 : Cond.methodLink RX0 88 yX0_readWhile ∈ wg := wg_of (List.mem_of_getElem? (i := 348) (by decide +kernel)) (by decide +kernel)
theorem wN_X0_readWhile : Cond.instanceMethod yX0_readWhile ∈ wg := wg_of (List.mem_of_getElem? (i := 350) (by decide +kernel)) (by decide +kernel)
theorem wC_X0_readWhile : Cond.code yX0_readWhile cX0_readWhile 4 none ∈ wg := wg_of (List.mem_of_getElem? (i := 351) (by decide +kernel)) (by decide +kernel)
theorem wM_X0_91 : Cond.methodLink RX0 91 yX0_readWord ∈ wg := wg_of (List.mem_of_getElem? (i := 352) (by decide +kernel)) (by decide +kernel)
theorem wN_X0_readWord : Cond.instanceMethod yX0_readWord ∈ wg := wg_of (List.mem_of_getElem? (i := 354) (by decide +kernel)) (by decide +kernel)
theorem wC_X0_readWord : Cond.code yX0_readWord cX0_readWord 2 none ∈ wg := wg_of (List.mem_of_getElem? (i := 355) (by decide +kernel)) (by decide +kernel)
theorem wM_X0_101 : Cond.methodLink RX0 101 yX0_readSetting ∈ wg := wg_of (List.mem_of_getElem? (i := 356) (by decide +kernel)) (by decide +kernel)
theorem wN_X0_readSetting : Cond.instanceMethod yX0_readSetting ∈ wg := wg_of (List.mem_of_getElem? (i := 358) (by decide +kernel)) (by decide +kernel)
theorem wC_X0_readSetting : Cond.code yX0_readSetting cX0_readSetting 5 none ∈ wg := wg_of (List.mem_of_getElem? (i := 359) (by decide +kernel)) (by decide +kernel)
theorem wM_X0_45 : Cond.methodLink RX0 45 yX0_checkCalls ∈ wg := wg_of (List.mem_of_getElem? (i := 360) (by decide +kernel)) (by decide +kernel)
theorem wN_X0_checkCalls : Cond.instanceMethod yX0_checkCalls ∈ wg := wg_of (List.mem_of_getElem? (i := 362) (by decide +kernel)) (by decide +kernel)
theorem wC_X0_checkCalls : Cond.code yX0_checkCalls cX0_checkCalls 2 none ∈ wg := wg_of (List.mem_of_getElem? (i := 363) (by decide +kernel)) (by decide +kernel)
theorem wM_X0_131 : Cond.methodLink RX0 131 yX0_checkCall ∈ wg := wg_of (List.mem_of_getElem? (i := 364) (by decide +kernel)) (by decide +kernel)
theorem wN_X0_checkCall : Cond.instanceMethod yX0_checkCall ∈ wg := wg_of (List.mem_of_getElem? (i := 366) (by decide +kernel)) (by decide +kernel)
theorem wC_X0_checkCall : Cond.code yX0_checkCall cX0_checkCall 3 none ∈ wg := wg_of (List.mem_of_getElem? (i := 367) (by decide +kernel)) (by decide +kernel)
theorem wM_X0_48 : Cond.methodLink RX0 48 yX4_length ∈ wg := wg_of (List.mem_of_getElem? (i := 368) (by decide +kernel)) (by decide +kernel)
theorem wN_X4_length : Cond.instanceMethod yX4_length ∈ wg := wg_of (List.mem_of_getElem? (i := 369) (by decide +kernel)) (by decide +kernel)
theorem wV_X4_length : Cond.selects RX4 yX4_length yX4_length ∈ wg := wg_of (List.mem_of_getElem? (i := 370) (by decide +kernel)) (by decide +kernel)
theorem wC_X4_length : Cond.code yX4_length cX4_length 1 (some .int) ∈ wg := wg_of (List.mem_of_getElem? (i := 371) (by decide +kernel)) (by decide +kernel)
theorem wM_X5_80 : Cond.methodLink RX5 80 yX4_clear ∈ wg := wg_of (List.mem_of_getElem? (i := 372) (by decide +kernel)) (by decide +kernel)
theorem wN_X4_clear : Cond.instanceMethod yX4_clear ∈ wg := wg_of (List.mem_of_getElem? (i := 373) (by decide +kernel)) (by decide +kernel)
theorem wV_X4_clear : Cond.selects RX4 yX4_clear yX4_clear ∈ wg := wg_of (List.mem_of_getElem? (i := 374) (by decide +kernel)) (by decide +kernel)
theorem wC_X4_clear : Cond.code yX4_clear cX4_clear 1 none ∈ wg := wg_of (List.mem_of_getElem? (i := 375) (by decide +kernel)) (by decide +kernel)
theorem wM_X5_83 : Cond.methodLink RX5 83 yX3_copy ∈ wg := wg_of (List.mem_of_getElem? (i := 376) (by decide +kernel)) (by decide +kernel)
theorem wN_X3_copy : Cond.instanceMethod yX3_copy ∈ wg := wg_of (List.mem_of_getElem? (i := 377) (by decide +kernel)) (by decide +kernel)
theorem wV_X3_copy : Cond.selects RX3 yX3_copy yX3_copy ∈ wg := wg_of (List.mem_of_getElem? (i := 378) (by decide +kernel)) (by decide +kernel)
theorem wC_X3_copy : Cond.code yX3_copy cX3_copy 3 none ∈ wg := wg_of (List.mem_of_getElem? (i := 379) (by decide +kernel)) (by decide +kernel)
theorem wM_X5_87 : Cond.methodLink RX5 87 yX2_clear ∈ wg := wg_of (List.mem_of_getElem? (i := 380) (by decide +kernel)) (by decide +kernel)
theorem wN_X2_clear : Cond.instanceMethod yX2_clear ∈ wg := wg_of (List.mem_of_getElem? (i := 381) (by decide +kernel)) (by decide +kernel)
theorem wV_X2_clear : Cond.selects RX2 yX2_clear yX2_clear ∈ wg := wg_of (List.mem_of_getElem? (i := 382) (by decide +kernel)) (by decide +kernel)
theorem wC_X2_clear : Cond.code yX2_clear cX2_clear 2 none ∈ wg := wg_of (List.mem_of_getElem? (i := 383) (by decide +kernel)) (by decide +kernel)
theorem wM_X5_88 : Cond.methodLink RX5 88 yX3_functions ∈ wg := wg_of (List.mem_of_getElem? (i := 384) (by decide +kernel)) (by decide +kernel)
theorem wN_X3_functions : Cond.instanceMethod yX3_functions ∈ wg := wg_of (List.mem_of_getElem? (i := 385) (by decide +kernel)) (by decide +kernel)
theorem wV_X3_functions : Cond.selects RX3 yX3_functions yX3_functions ∈ wg := wg_of (List.mem_of_getElem? (i := 386) (by decide +kernel)) (by decide +kernel)
theorem wC_X3_functions : Cond.code yX3_functions cX3_functions 1 (some .int) ∈ wg := wg_of (List.mem_of_getElem? (i := 387) (by decide +kernel)) (by decide +kernel)
theorem wM_L_77 : Cond.methodLink RL 77 yX5_about ∈ wg := wg_of (List.mem_of_getElem? (i := 388) (by decide +kernel)) (by decide +kernel)
theorem wN_X5_about : Cond.instanceMethod yX5_about ∈ wg := wg_of (List.mem_of_getElem? (i := 389) (by decide +kernel)) (by decide +kernel)
theorem wV_X5_about : Cond.selects RX5 yX5_about yX5_about ∈ wg := wg_of (List.mem_of_getElem? (i := 390) (by decide +kernel)) (by decide +kernel)
theorem wC_X5_about : Cond.code yX5_about cX5_about 2 (some .int) ∈ wg := wg_of (List.mem_of_getElem? (i := 391) (by decide +kernel)) (by decide +kernel)
theorem wM_X5_110 : Cond.methodLink RX5 110 yX2_state ∈ wg := wg_of (List.mem_of_getElem? (i := 392) (by decide +kernel)) (by decide +kernel)
theorem wN_X2_state : Cond.instanceMethod yX2_state ∈ wg := wg_of (List.mem_of_getElem? (i := 393) (by decide +kernel)) (by decide +kernel)
theorem wV_X2_state : Cond.selects RX2 yX2_state yX2_state ∈ wg := wg_of (List.mem_of_getElem? (i := 394) (by decide +kernel)) (by decide +kernel)
theorem wC_X2_state : Cond.code yX2_state cX2_state 1 (some .int) ∈ wg := wg_of (List.mem_of_getElem? (i := 395) (by decide +kernel)) (by decide +kernel)
theorem wM_X5_64 : Cond.methodLink RX5 64 yX4_length ∈ wg := wg_of (List.mem_of_getElem? (i := 396) (by decide +kernel)) (by decide +kernel)
theorem wM_X5_141 : Cond.methodLink RX5 141 yX2_begun ∈ wg := wg_of (List.mem_of_getElem? (i := 397) (by decide +kernel)) (by decide +kernel)
theorem wN_X2_begun : Cond.instanceMethod yX2_begun ∈ wg := wg_of (List.mem_of_getElem? (i := 398) (by decide +kernel)) (by decide +kernel)
theorem wV_X2_begun : Cond.selects RX2 yX2_begun yX2_begun ∈ wg := wg_of (List.mem_of_getElem? (i := 399) (by decide +kernel)) (by decide +kernel)
theorem wC_X2_begun : Cond.code yX2_begun cX2_begun 1 (some .int) ∈ wg := wg_of (List.mem_of_getElem? (i := 400) (by decide +kernel)) (by decide +kernel)
theorem wM_X5_144 : Cond.methodLink RX5 144 yX2_countShown ∈ wg := wg_of (List.mem_of_getElem? (i := 401) (by decide +kernel)) (by decide +kernel)
theorem wN_X2_countShown : Cond.instanceMethod yX2_countShown ∈ wg := wg_of (List.mem_of_getElem? (i := 402) (by decide +kernel)) (by decide +kernel)
theorem wV_X2_countShown : Cond.selects RX2 yX2_countShown yX2_countShown ∈ wg := wg_of (List.mem_of_getElem? (i := 403) (by decide +kernel)) (by decide +kernel)
theorem wC_X2_countShown : Cond.code yX2_countShown cX2_countShown 1 (some .int) ∈ wg := wg_of (List.mem_of_getElem? (i := 404) (by decide +kernel)) (by decide +kernel)
theorem wM_X5_105 : Cond.methodLink RX5 105 yX1_count ∈ wg := wg_of (List.mem_of_getElem? (i := 405) (by decide +kernel)) (by decide +kernel)
theorem wN_X1_count : Cond.instanceMethod yX1_count ∈ wg := wg_of (List.mem_of_getElem? (i := 406) (by decide +kernel)) (by decide +kernel)
theorem wV_X1_count : Cond.selects RX1 yX1_count yX1_count ∈ wg := wg_of (List.mem_of_getElem? (i := 407) (by decide +kernel)) (by decide +kernel)
theorem wC_X1_count : Cond.code yX1_count cX1_count 1 (some .int) ∈ wg := wg_of (List.mem_of_getElem? (i := 408) (by decide +kernel)) (by decide +kernel)
theorem wM_X5_147 : Cond.methodLink RX5 147 yX2_running ∈ wg := wg_of (List.mem_of_getElem? (i := 409) (by decide +kernel)) (by decide +kernel)
theorem wN_X2_running : Cond.instanceMethod yX2_running ∈ wg := wg_of (List.mem_of_getElem? (i := 410) (by decide +kernel)) (by decide +kernel)
theorem wV_X2_running : Cond.selects RX2 yX2_running yX2_running ∈ wg := wg_of (List.mem_of_getElem? (i := 411) (by decide +kernel)) (by decide +kernel)
theorem wC_X2_running : Cond.code yX2_running cX2_running 1 (some .int) ∈ wg := wg_of (List.mem_of_getElem? (i := 412) (by decide +kernel)) (by decide +kernel)
theorem wM_L_43 : Cond.methodLink RL 43 yL_words ∈ wg := wg_of (List.mem_of_getElem? (i := 413) (by decide +kernel)) (by decide +kernel)
theorem wS_L_words : Cond.static yL_words ∈ wg := wg_of (List.mem_of_getElem? (i := 414) (by decide +kernel)) (by decide +kernel)
theorem wM_L_7 : Cond.methodLink RL 7 yX5_words ∈ wg := wg_of (List.mem_of_getElem? (i := 418) (by decide +kernel)) (by decide +kernel)
theorem wN_X5_words : Cond.instanceMethod yX5_words ∈ wg := wg_of (List.mem_of_getElem? (i := 419) (by decide +kernel)) (by decide +kernel)
theorem wV_X5_words : Cond.selects RX5 yX5_words yX5_words ∈ wg := wg_of (List.mem_of_getElem? (i := 420) (by decide +kernel)) (by decide +kernel)
theorem wC_X5_words : Cond.code yX5_words cX5_words 4 (some .int) ∈ wg := wg_of (List.mem_of_getElem? (i := 421) (by decide +kernel)) (by decide +kernel)
theorem wM_X5_58 : Cond.methodLink RX5 58 yX5_byteOf ∈ wg := wg_of (List.mem_of_getElem? (i := 490) (by decide +kernel)) (by decide +kernel)
theorem wS_X5_byteOf : Cond.static yX5_byteOf ∈ wg := wg_of (List.mem_of_getElem? (i := 491) (by decide +kernel)) (by decide +kernel)
theorem wC_X5_byteOf : Cond.code yX5_byteOf cX5_byteOf 2 (some .int) ∈ wg := wg_of (List.mem_of_getElem? (i := 492) (by decide +kernel)) (by decide +kernel)
theorem wM_X5_73 : Cond.methodLink RX5 73 yX4_add ∈ wg := wg_of (List.mem_of_getElem? (i := 510) (by decide +kernel)) (by decide +kernel)
theorem wN_X4_add : Cond.instanceMethod yX4_add ∈ wg := wg_of (List.mem_of_getElem? (i := 511) (by decide +kernel)) (by decide +kernel)
theorem wV_X4_add : Cond.selects RX4 yX4_add yX4_add ∈ wg := wg_of (List.mem_of_getElem? (i := 512) (by decide +kernel)) (by decide +kernel)
theorem wC_X4_add : Cond.code yX4_add cX4_add 2 none ∈ wg := wg_of (List.mem_of_getElem? (i := 513) (by decide +kernel)) (by decide +kernel)
theorem wM_L_57 : Cond.methodLink RL 57 yL_start ∈ wg := wg_of (List.mem_of_getElem? (i := 514) (by decide +kernel)) (by decide +kernel)
theorem wS_L_start : Cond.static yL_start ∈ wg := wg_of (List.mem_of_getElem? (i := 515) (by decide +kernel)) (by decide +kernel)
theorem wM_L_17 : Cond.methodLink RL 17 yX5_start ∈ wg := wg_of (List.mem_of_getElem? (i := 517) (by decide +kernel)) (by decide +kernel)
theorem wN_X5_start : Cond.instanceMethod yX5_start ∈ wg := wg_of (List.mem_of_getElem? (i := 518) (by decide +kernel)) (by decide +kernel)
theorem wV_X5_start : Cond.selects RX5 yX5_start yX5_start ∈ wg := wg_of (List.mem_of_getElem? (i := 519) (by decide +kernel)) (by decide +kernel)
theorem wC_X5_start : Cond.code yX5_start cX5_start 1 (some .boolean) ∈ wg := wg_of (List.mem_of_getElem? (i := 520) (by decide +kernel)) (by decide +kernel)
theorem wM_X5_93 : Cond.methodLink RX5 93 yX2_begin ∈ wg := wg_of (List.mem_of_getElem? (i := 522) (by decide +kernel)) (by decide +kernel)
theorem wN_X2_begin : Cond.instanceMethod yX2_begin ∈ wg := wg_of (List.mem_of_getElem? (i := 523) (by decide +kernel)) (by decide +kernel)
theorem wV_X2_begin : Cond.selects RX2 yX2_begin yX2_begin ∈ wg := wg_of (List.mem_of_getElem? (i := 524) (by decide +kernel)) (by decide +kernel)
theorem wC_X2_begin : Cond.code yX2_begin cX2_begin 1 none ∈ wg := wg_of (List.mem_of_getElem? (i := 525) (by decide +kernel)) (by decide +kernel)
theorem wM_X2_57 : Cond.methodLink RX2 57 yX2_clear ∈ wg := wg_of (List.mem_of_getElem? (i := 526) (by decide +kernel)) (by decide +kernel)
theorem wM_X2_60 : Cond.methodLink RX2 60 yX2_enter ∈ wg := wg_of (List.mem_of_getElem? (i := 527) (by decide +kernel)) (by decide +kernel)
theorem wN_X2_enter : Cond.instanceMethod yX2_enter ∈ wg := wg_of (List.mem_of_getElem? (i := 529) (by decide +kernel)) (by decide +kernel)
theorem wC_X2_enter : Cond.code yX2_enter cX2_enter 3 none ∈ wg := wg_of (List.mem_of_getElem? (i := 530) (by decide +kernel)) (by decide +kernel)
theorem wM_X2_114 : Cond.methodLink RX2 114 yX2_setLocal ∈ wg := wg_of (List.mem_of_getElem? (i := 531) (by decide +kernel)) (by decide +kernel)
theorem wN_X2_setLocal : Cond.instanceMethod yX2_setLocal ∈ wg := wg_of (List.mem_of_getElem? (i := 533) (by decide +kernel)) (by decide +kernel)
theorem wC_X2_setLocal : Cond.code yX2_setLocal cX2_setLocal 4 none ∈ wg := wg_of (List.mem_of_getElem? (i := 534) (by decide +kernel)) (by decide +kernel)
theorem wM_X2_139 : Cond.methodLink RX2 139 yX3_parametersOf ∈ wg := wg_of (List.mem_of_getElem? (i := 535) (by decide +kernel)) (by decide +kernel)
theorem wM_X2_90 : Cond.methodLink RX2 90 yX2_pop ∈ wg := wg_of (List.mem_of_getElem? (i := 536) (by decide +kernel)) (by decide +kernel)
theorem wN_X2_pop : Cond.instanceMethod yX2_pop ∈ wg := wg_of (List.mem_of_getElem? (i := 538) (by decide +kernel)) (by decide +kernel)
theorem wC_X2_pop : Cond.code yX2_pop cX2_pop 1 (some .int) ∈ wg := wg_of (List.mem_of_getElem? (i := 539) (by decide +kernel)) (by decide +kernel)
theorem wM_X2_142 : Cond.methodLink RX2 142 yX3_entryOf ∈ wg := wg_of (List.mem_of_getElem? (i := 540) (by decide +kernel)) (by decide +kernel)
theorem wN_X3_entryOf : Cond.instanceMethod yX3_entryOf ∈ wg := wg_of (List.mem_of_getElem? (i := 541) (by decide +kernel)) (by decide +kernel)
theorem wV_X3_entryOf : Cond.selects RX3 yX3_entryOf yX3_entryOf ∈ wg := wg_of (List.mem_of_getElem? (i := 542) (by decide +kernel)) (by decide +kernel)
theorem wC_X3_entryOf : Cond.code yX3_entryOf cX3_entryOf 2 (some .int) ∈ wg := wg_of (List.mem_of_getElem? (i := 543) (by decide +kernel)) (by decide +kernel)
theorem wM_L_61 : Cond.methodLink RL 61 yL_key ∈ wg := wg_of (List.mem_of_getElem? (i := 544) (by decide +kernel)) (by decide +kernel)
theorem wS_L_key : Cond.static yL_key ∈ wg := wg_of (List.mem_of_getElem? (i := 545) (by decide +kernel)) (by decide +kernel)
theorem wM_L_21 : Cond.methodLink RL 21 yX5_key ∈ wg := wg_of (List.mem_of_getElem? (i := 547) (by decide +kernel)) (by decide +kernel)
theorem wN_X5_key : Cond.instanceMethod yX5_key ∈ wg := wg_of (List.mem_of_getElem? (i := 548) (by decide +kernel)) (by decide +kernel)
theorem wV_X5_key : Cond.selects RX5 yX5_key yX5_key ∈ wg := wg_of (List.mem_of_getElem? (i := 549) (by decide +kernel)) (by decide +kernel)
theorem wC_X5_key : Cond.code yX5_key cX5_key 2 (some .int) ∈ wg := wg_of (List.mem_of_getElem? (i := 550) (by decide +kernel)) (by decide +kernel)
theorem wM_X5_98 : Cond.methodLink RX5 98 yX1_full ∈ wg := wg_of (List.mem_of_getElem? (i := 552) (by decide +kernel)) (by decide +kernel)
theorem wN_X1_full : Cond.instanceMethod yX1_full ∈ wg := wg_of (List.mem_of_getElem? (i := 553) (by decide +kernel)) (by decide +kernel)
theorem wV_X1_full : Cond.selects RX1 yX1_full yX1_full ∈ wg := wg_of (List.mem_of_getElem? (i := 554) (by decide +kernel)) (by decide +kernel)
theorem wC_X1_full : Cond.code yX1_full cX1_full 1 (some .boolean) ∈ wg := wg_of (List.mem_of_getElem? (i := 555) (by decide +kernel)) (by decide +kernel)
theorem wM_X5_104 : Cond.methodLink RX5 104 yX1_add ∈ wg := wg_of (List.mem_of_getElem? (i := 557) (by decide +kernel)) (by decide +kernel)
theorem wN_X1_add : Cond.instanceMethod yX1_add ∈ wg := wg_of (List.mem_of_getElem? (i := 558) (by decide +kernel)) (by decide +kernel)
theorem wV_X1_add : Cond.selects RX1 yX1_add yX1_add ∈ wg := wg_of (List.mem_of_getElem? (i := 559) (by decide +kernel)) (by decide +kernel)
theorem wC_X1_add : Cond.code yX1_add cX1_add 2 none ∈ wg := wg_of (List.mem_of_getElem? (i := 560) (by decide +kernel)) (by decide +kernel)
theorem wM_L_65 : Cond.methodLink RL 65 yL_run ∈ wg := wg_of (List.mem_of_getElem? (i := 561) (by decide +kernel)) (by decide +kernel)
theorem wS_L_run : Cond.static yL_run ∈ wg := wg_of (List.mem_of_getElem? (i := 562) (by decide +kernel)) (by decide +kernel)
theorem wM_L_25 : Cond.methodLink RL 25 yX5_run ∈ wg := wg_of (List.mem_of_getElem? (i := 564) (by decide +kernel)) (by decide +kernel)
theorem wN_X5_run : Cond.instanceMethod yX5_run ∈ wg := wg_of (List.mem_of_getElem? (i := 565) (by decide +kernel)) (by decide +kernel)
theorem wV_X5_run : Cond.selects RX5 yX5_run yX5_run ∈ wg := wg_of (List.mem_of_getElem? (i := 566) (by decide +kernel)) (by decide +kernel)
theorem wC_X5_run : Cond.code yX5_run cX5_run 2 (some .int) ∈ wg := wg_of (List.mem_of_getElem? (i := 567) (by decide +kernel)) (by decide +kernel)
theorem wM_X5_115 : Cond.methodLink RX5 115 yX2_go ∈ wg := wg_of (List.mem_of_getElem? (i := 570) (by decide +kernel)) (by decide +kernel)
theorem wN_X2_go : Cond.instanceMethod yX2_go ∈ wg := wg_of (List.mem_of_getElem? (i := 571) (by decide +kernel)) (by decide +kernel)
theorem wV_X2_go : Cond.selects RX2 yX2_go yX2_go ∈ wg := wg_of (List.mem_of_getElem? (i := 572) (by decide +kernel)) (by decide +kernel)
theorem wC_X2_go : Cond.code yX2_go cX2_go 6 (some .int) ∈ wg := wg_of (List.mem_of_getElem? (i := 573) (by decide +kernel)) (by decide +kernel)
theorem wM_X2_64 : Cond.methodLink RX2 64 yX1_count ∈ wg := wg_of (List.mem_of_getElem? (i := 574) (by decide +kernel)) (by decide +kernel)
theorem wK_X2_70 : Cond.constant RX2 70 1000000 ∈ wg := wg_of (List.mem_of_getElem? (i := 575) (by decide +kernel)) (by decide +kernel)
theorem wM_X2_71 : Cond.methodLink RX2 71 yX3_stepAt ∈ wg := wg_of (List.mem_of_getElem? (i := 576) (by decide +kernel)) (by decide +kernel)
theorem wN_X3_stepAt : Cond.instanceMethod yX3_stepAt ∈ wg := wg_of (List.mem_of_getElem? (i := 577) (by decide +kernel)) (by decide +kernel)
theorem wV_X3_stepAt : Cond.selects RX3 yX3_stepAt yX3_stepAt ∈ wg := wg_of (List.mem_of_getElem? (i := 578) (by decide +kernel)) (by decide +kernel)
theorem wC_X3_stepAt : Cond.code yX3_stepAt cX3_stepAt 2 (some .int) ∈ wg := wg_of (List.mem_of_getElem? (i := 579) (by decide +kernel)) (by decide +kernel)
theorem wM_X2_77 : Cond.methodLink RX2 77 yX3_operandAt ∈ wg := wg_of (List.mem_of_getElem? (i := 580) (by decide +kernel)) (by decide +kernel)
theorem wN_X3_operandAt : Cond.instanceMethod yX3_operandAt ∈ wg := wg_of (List.mem_of_getElem? (i := 581) (by decide +kernel)) (by decide +kernel)
theorem wV_X3_operandAt : Cond.selects RX3 yX3_operandAt yX3_operandAt ∈ wg := wg_of (List.mem_of_getElem? (i := 582) (by decide +kernel)) (by decide +kernel)
theorem wC_X3_operandAt : Cond.code yX3_operandAt cX3_operandAt 2 (some .int) ∈ wg := wg_of (List.mem_of_getElem? (i := 583) (by decide +kernel)) (by decide +kernel)
theorem wM_X2_80 : Cond.methodLink RX2 80 yX2_act ∈ wg := wg_of (List.mem_of_getElem? (i := 584) (by decide +kernel)) (by decide +kernel)
theorem wN_X2_act : Cond.instanceMethod yX2_act ∈ wg := wg_of (List.mem_of_getElem? (i := 586) (by decide +kernel)) (by decide +kernel)
theorem wC_X2_act : Cond.code yX2_act cX2_act 3 none ∈ wg := wg_of (List.mem_of_getElem? (i := 587) (by decide +kernel)) (by decide +kernel)
theorem wM_X2_84 : Cond.methodLink RX2 84 yX2_leave ∈ wg := wg_of (List.mem_of_getElem? (i := 588) (by decide +kernel)) (by decide +kernel)
theorem wN_X2_leave : Cond.instanceMethod yX2_leave ∈ wg := wg_of (List.mem_of_getElem? (i := 590) (by decide +kernel)) (by decide +kernel)
theorem wC_X2_leave : Cond.code yX2_leave cX2_leave 2 none ∈ wg := wg_of (List.mem_of_getElem? (i := 591) (by decide +kernel)) (by decide +kernel)
theorem wM_X2_99 : Cond.methodLink RX2 99 yX2_push ∈ wg := wg_of (List.mem_of_getElem? (i := 592) (by decide +kernel)) (by decide +kernel)
theorem wN_X2_push : Cond.instanceMethod yX2_push ∈ wg := wg_of (List.mem_of_getElem? (i := 594) (by decide +kernel)) (by decide +kernel)
theorem wC_X2_push : Cond.code yX2_push cX2_push 2 none ∈ wg := wg_of (List.mem_of_getElem? (i := 595) (by decide +kernel)) (by decide +kernel)
theorem wM_X2_87 : Cond.methodLink RX2 87 yX2_call ∈ wg := wg_of (List.mem_of_getElem? (i := 596) (by decide +kernel)) (by decide +kernel)
theorem wN_X2_call : Cond.instanceMethod yX2_call ∈ wg := wg_of (List.mem_of_getElem? (i := 598) (by decide +kernel)) (by decide +kernel)
theorem wC_X2_call : Cond.code yX2_call cX2_call 2 none ∈ wg := wg_of (List.mem_of_getElem? (i := 599) (by decide +kernel)) (by decide +kernel)
theorem wM_X2_93 : Cond.methodLink RX2 93 yX2_show ∈ wg := wg_of (List.mem_of_getElem? (i := 600) (by decide +kernel)) (by decide +kernel)
theorem wN_X2_show : Cond.instanceMethod yX2_show ∈ wg := wg_of (List.mem_of_getElem? (i := 602) (by decide +kernel)) (by decide +kernel)
theorem wC_X2_show : Cond.code yX2_show cX2_show 2 none ∈ wg := wg_of (List.mem_of_getElem? (i := 603) (by decide +kernel)) (by decide +kernel)
theorem wM_X2_96 : Cond.methodLink RX2 96 yX2_read ∈ wg := wg_of (List.mem_of_getElem? (i := 604) (by decide +kernel)) (by decide +kernel)
theorem wN_X2_read : Cond.instanceMethod yX2_read ∈ wg := wg_of (List.mem_of_getElem? (i := 606) (by decide +kernel)) (by decide +kernel)
theorem wC_X2_read : Cond.code yX2_read cX2_read 1 none ∈ wg := wg_of (List.mem_of_getElem? (i := 607) (by decide +kernel)) (by decide +kernel)
theorem wM_X2_132 : Cond.methodLink RX2 132 yX1_take ∈ wg := wg_of (List.mem_of_getElem? (i := 608) (by decide +kernel)) (by decide +kernel)
theorem wN_X1_take : Cond.instanceMethod yX1_take ∈ wg := wg_of (List.mem_of_getElem? (i := 609) (by decide +kernel)) (by decide +kernel)
theorem wV_X1_take : Cond.selects RX1 yX1_take yX1_take ∈ wg := wg_of (List.mem_of_getElem? (i := 610) (by decide +kernel)) (by decide +kernel)
theorem wC_X1_take : Cond.code yX1_take cX1_take 2 (some .int) ∈ wg := wg_of (List.mem_of_getElem? (i := 611) (by decide +kernel)) (by decide +kernel)
theorem wM_X2_102 : Cond.methodLink RX2 102 yX2_actOnVariable ∈ wg := wg_of (List.mem_of_getElem? (i := 612) (by decide +kernel)) (by decide +kernel)
theorem wN_X2_actOnVariable : Cond.instanceMethod yX2_actOnVariable ∈ wg := wg_of (List.mem_of_getElem? (i := 614) (by decide +kernel)) (by decide +kernel)
theorem wC_X2_actOnVariable : Cond.code yX2_actOnVariable cX2_actOnVariable 3 none ∈ wg := wg_of (List.mem_of_getElem? (i := 615) (by decide +kernel)) (by decide +kernel)
theorem wM_X2_105 : Cond.methodLink RX2 105 yX2_globalAt ∈ wg := wg_of (List.mem_of_getElem? (i := 616) (by decide +kernel)) (by decide +kernel)
theorem wN_X2_globalAt : Cond.instanceMethod yX2_globalAt ∈ wg := wg_of (List.mem_of_getElem? (i := 617) (by decide +kernel)) (by decide +kernel)
theorem wV_X2_globalAt : Cond.selects RX2 yX2_globalAt yX2_globalAt ∈ wg := wg_of (List.mem_of_getElem? (i := 618) (by decide +kernel)) (by decide +kernel)
theorem wC_X2_globalAt : Cond.code yX2_globalAt cX2_globalAt 2 (some .int) ∈ wg := wg_of (List.mem_of_getElem? (i := 619) (by decide +kernel)) (by decide +kernel)
theorem wM_X2_108 : Cond.methodLink RX2 108 yX2_setGlobal ∈ wg := wg_of (List.mem_of_getElem? (i := 620) (by decide +kernel)) (by decide +kernel)
theorem wN_X2_setGlobal : Cond.instanceMethod yX2_setGlobal ∈ wg := wg_of (List.mem_of_getElem? (i := 622) (by decide +kernel)) (by decide +kernel)
theorem wC_X2_setGlobal : Cond.code yX2_setGlobal cX2_setGlobal 3 none ∈ wg := wg_of (List.mem_of_getElem? (i := 623) (by decide +kernel)) (by decide +kernel)
theorem wM_X2_111 : Cond.methodLink RX2 111 yX2_localAt ∈ wg := wg_of (List.mem_of_getElem? (i := 624) (by decide +kernel)) (by decide +kernel)
theorem wN_X2_localAt : Cond.instanceMethod yX2_localAt ∈ wg := wg_of (List.mem_of_getElem? (i := 626) (by decide +kernel)) (by decide +kernel)
theorem wC_X2_localAt : Cond.code yX2_localAt cX2_localAt 3 (some .int) ∈ wg := wg_of (List.mem_of_getElem? (i := 627) (by decide +kernel)) (by decide +kernel)
theorem wM_X2_117 : Cond.methodLink RX2 117 yX2_getPlace ∈ wg := wg_of (List.mem_of_getElem? (i := 628) (by decide +kernel)) (by decide +kernel)
theorem wN_X2_getPlace : Cond.instanceMethod yX2_getPlace ∈ wg := wg_of (List.mem_of_getElem? (i := 630) (by decide +kernel)) (by decide +kernel)
theorem wC_X2_getPlace : Cond.code yX2_getPlace cX2_getPlace 3 none ∈ wg := wg_of (List.mem_of_getElem? (i := 631) (by decide +kernel)) (by decide +kernel)
theorem wM_X2_135 : Cond.methodLink RX2 135 yX2_placeAt ∈ wg := wg_of (List.mem_of_getElem? (i := 632) (by decide +kernel)) (by decide +kernel)
theorem wN_X2_placeAt : Cond.instanceMethod yX2_placeAt ∈ wg := wg_of (List.mem_of_getElem? (i := 633) (by decide +kernel)) (by decide +kernel)
theorem wV_X2_placeAt : Cond.selects RX2 yX2_placeAt yX2_placeAt ∈ wg := wg_of (List.mem_of_getElem? (i := 634) (by decide +kernel)) (by decide +kernel)
theorem wC_X2_placeAt : Cond.code yX2_placeAt cX2_placeAt 4 (some .int) ∈ wg := wg_of (List.mem_of_getElem? (i := 635) (by decide +kernel)) (by decide +kernel)
theorem wM_X2_120 : Cond.methodLink RX2 120 yX2_setPlace ∈ wg := wg_of (List.mem_of_getElem? (i := 636) (by decide +kernel)) (by decide +kernel)
theorem wN_X2_setPlace : Cond.instanceMethod yX2_setPlace ∈ wg := wg_of (List.mem_of_getElem? (i := 638) (by decide +kernel)) (by decide +kernel)
theorem wC_X2_setPlace : Cond.code yX2_setPlace cX2_setPlace 5 none ∈ wg := wg_of (List.mem_of_getElem? (i := 639) (by decide +kernel)) (by decide +kernel)
theorem wM_X2_123 : Cond.methodLink RX2 123 yX2_combine ∈ wg := wg_of (List.mem_of_getElem? (i := 640) (by decide +kernel)) (by decide +kernel)
theorem wN_X2_combine : Cond.instanceMethod yX2_combine ∈ wg := wg_of (List.mem_of_getElem? (i := 642) (by decide +kernel)) (by decide +kernel)
theorem wC_X2_combine : Cond.code yX2_combine cX2_combine 4 none ∈ wg := wg_of (List.mem_of_getElem? (i := 643) (by decide +kernel)) (by decide +kernel)
theorem wM_X2_126 : Cond.methodLink RX2 126 yX2_divide ∈ wg := wg_of (List.mem_of_getElem? (i := 644) (by decide +kernel)) (by decide +kernel)
theorem wN_X2_divide : Cond.instanceMethod yX2_divide ∈ wg := wg_of (List.mem_of_getElem? (i := 646) (by decide +kernel)) (by decide +kernel)
theorem wC_X2_divide : Cond.code yX2_divide cX2_divide 4 none ∈ wg := wg_of (List.mem_of_getElem? (i := 647) (by decide +kernel)) (by decide +kernel)
theorem wM_L_68 : Cond.methodLink RL 68 yL_shown ∈ wg := wg_of (List.mem_of_getElem? (i := 648) (by decide +kernel)) (by decide +kernel)
theorem wS_L_shown : Cond.static yL_shown ∈ wg := wg_of (List.mem_of_getElem? (i := 649) (by decide +kernel)) (by decide +kernel)
theorem wM_L_28 : Cond.methodLink RL 28 yX5_shown ∈ wg := wg_of (List.mem_of_getElem? (i := 652) (by decide +kernel)) (by decide +kernel)
theorem wN_X5_shown : Cond.instanceMethod yX5_shown ∈ wg := wg_of (List.mem_of_getElem? (i := 653) (by decide +kernel)) (by decide +kernel)
theorem wV_X5_shown : Cond.selects RX5 yX5_shown yX5_shown ∈ wg := wg_of (List.mem_of_getElem? (i := 654) (by decide +kernel)) (by decide +kernel)
theorem wC_X5_shown : Cond.code yX5_shown cX5_shown 2 (some .int) ∈ wg := wg_of (List.mem_of_getElem? (i := 655) (by decide +kernel)) (by decide +kernel)
theorem wM_X5_119 : Cond.methodLink RX5 119 yX2_hasShown ∈ wg := wg_of (List.mem_of_getElem? (i := 656) (by decide +kernel)) (by decide +kernel)
theorem wN_X2_hasShown : Cond.instanceMethod yX2_hasShown ∈ wg := wg_of (List.mem_of_getElem? (i := 657) (by decide +kernel)) (by decide +kernel)
theorem wV_X2_hasShown : Cond.selects RX2 yX2_hasShown yX2_hasShown ∈ wg := wg_of (List.mem_of_getElem? (i := 658) (by decide +kernel)) (by decide +kernel)
theorem wC_X2_hasShown : Cond.code yX2_hasShown cX2_hasShown 2 (some .boolean) ∈ wg := wg_of (List.mem_of_getElem? (i := 659) (by decide +kernel)) (by decide +kernel)
theorem wM_X5_128 : Cond.methodLink RX5 128 yX2_shownAt ∈ wg := wg_of (List.mem_of_getElem? (i := 676) (by decide +kernel)) (by decide +kernel)
theorem wN_X2_shownAt : Cond.instanceMethod yX2_shownAt ∈ wg := wg_of (List.mem_of_getElem? (i := 677) (by decide +kernel)) (by decide +kernel)
theorem wV_X2_shownAt : Cond.selects RX2 yX2_shownAt yX2_shownAt ∈ wg := wg_of (List.mem_of_getElem? (i := 678) (by decide +kernel)) (by decide +kernel)
theorem wC_X2_shownAt : Cond.code yX2_shownAt cX2_shownAt 2 (some .int) ∈ wg := wg_of (List.mem_of_getElem? (i := 679) (by decide +kernel)) (by decide +kernel)
theorem wM_L_71 : Cond.methodLink RL 71 yL_global ∈ wg := wg_of (List.mem_of_getElem? (i := 680) (by decide +kernel)) (by decide +kernel)
theorem wS_L_global : Cond.static yL_global ∈ wg := wg_of (List.mem_of_getElem? (i := 681) (by decide +kernel)) (by decide +kernel)
theorem wM_L_33 : Cond.methodLink RL 33 yX5_global ∈ wg := wg_of (List.mem_of_getElem? (i := 683) (by decide +kernel)) (by decide +kernel)
theorem wN_X5_global : Cond.instanceMethod yX5_global ∈ wg := wg_of (List.mem_of_getElem? (i := 684) (by decide +kernel)) (by decide +kernel)
theorem wV_X5_global : Cond.selects RX5 yX5_global yX5_global ∈ wg := wg_of (List.mem_of_getElem? (i := 685) (by decide +kernel)) (by decide +kernel)
theorem wC_X5_global : Cond.code yX5_global cX5_global 2 (some .int) ∈ wg := wg_of (List.mem_of_getElem? (i := 686) (by decide +kernel)) (by decide +kernel)
theorem wM_X5_133 : Cond.methodLink RX5 133 yX2_globalAt ∈ wg := wg_of (List.mem_of_getElem? (i := 688) (by decide +kernel)) (by decide +kernel)
theorem wM_L_74 : Cond.methodLink RL 74 yL_array ∈ wg := wg_of (List.mem_of_getElem? (i := 689) (by decide +kernel)) (by decide +kernel)
theorem wS_L_array : Cond.static yL_array ∈ wg := wg_of (List.mem_of_getElem? (i := 690) (by decide +kernel)) (by decide +kernel)
theorem wM_L_36 : Cond.methodLink RL 36 yX5_array ∈ wg := wg_of (List.mem_of_getElem? (i := 692) (by decide +kernel)) (by decide +kernel)
theorem wN_X5_array : Cond.instanceMethod yX5_array ∈ wg := wg_of (List.mem_of_getElem? (i := 693) (by decide +kernel)) (by decide +kernel)
theorem wV_X5_array : Cond.selects RX5 yX5_array yX5_array ∈ wg := wg_of (List.mem_of_getElem? (i := 694) (by decide +kernel)) (by decide +kernel)
theorem wC_X5_array : Cond.code yX5_array cX5_array 3 (some .int) ∈ wg := wg_of (List.mem_of_getElem? (i := 695) (by decide +kernel)) (by decide +kernel)
theorem wM_X5_138 : Cond.methodLink RX5 138 yX2_placeAt ∈ wg := wg_of (List.mem_of_getElem? (i := 697) (by decide +kernel)) (by decide +kernel)
theorem wL_L_40 : Cond.classLink RL 40 RX6 ∈ wg := wg_of (List.mem_of_getElem? (i := 698) (by decide +kernel)) (by decide +kernel)
theorem wT_X6 : Cond.instantiable RX6 52 ∈ wg := wg_of (List.mem_of_getElem? (i := 699) (by decide +kernel)) (by decide +kernel)
theorem wM_L_42 : Cond.methodLink RL 42 yX6_init ∈ wg := wg_of (List.mem_of_getElem? (i := 700) (by decide +kernel)) (by decide +kernel)
theorem wN_X6_init : Cond.instanceMethod yX6_init ∈ wg := wg_of (List.mem_of_getElem? (i := 701) (by decide +kernel)) (by decide +kernel)
theorem wC_X6_init : Cond.code yX6_init cX6_init 1 none ∈ wg := wg_of (List.mem_of_getElem? (i := 702) (by decide +kernel)) (by decide +kernel)
theorem wF_X6_97 : Cond.fieldLink RX6 97 RX6 "threw" "I" ∈ wg := wg_of (List.mem_of_getElem? (i := 704) (by decide +kernel)) (by decide +kernel)
theorem wF_X6_101 : Cond.fieldLink RX6 101 RX6 "size" "I" ∈ wg := wg_of (List.mem_of_getElem? (i := 705) (by decide +kernel)) (by decide +kernel)
theorem wF_X6_7 : Cond.fieldLink RX6 7 RX6 "text" "[I" ∈ wg := wg_of (List.mem_of_getElem? (i := 706) (by decide +kernel)) (by decide +kernel)
theorem wF_X6_107 : Cond.fieldLink RX6 107 RX6 "error" "I" ∈ wg := wg_of (List.mem_of_getElem? (i := 707) (by decide +kernel)) (by decide +kernel)
theorem wF_X6_110 : Cond.fieldLink RX6 110 RX6 "where" "I" ∈ wg := wg_of (List.mem_of_getElem? (i := 708) (by decide +kernel)) (by decide +kernel)
theorem wF_X6_104 : Cond.fieldLink RX6 104 RX6 "next" "I" ∈ wg := wg_of (List.mem_of_getElem? (i := 709) (by decide +kernel)) (by decide +kernel)
theorem wF_X6_143 : Cond.fieldLink RX6 143 RX6 "mode" "I" ∈ wg := wg_of (List.mem_of_getElem? (i := 710) (by decide +kernel)) (by decide +kernel)
theorem wF_X6_124 : Cond.fieldLink RX6 124 RX6 "done" "Z" ∈ wg := wg_of (List.mem_of_getElem? (i := 711) (by decide +kernel)) (by decide +kernel)
theorem wF_X6_121 : Cond.fieldLink RX6 121 RX6 "written" "I" ∈ wg := wg_of (List.mem_of_getElem? (i := 712) (by decide +kernel)) (by decide +kernel)
theorem wF_X6_13 : Cond.fieldLink RX6 13 RX6 "made" "[I" ∈ wg := wg_of (List.mem_of_getElem? (i := 713) (by decide +kernel)) (by decide +kernel)
theorem wF_X6_16 : Cond.fieldLink RX6 16 RX6 "with" "[I" ∈ wg := wg_of (List.mem_of_getElem? (i := 714) (by decide +kernel)) (by decide +kernel)
theorem wF_X6_19 : Cond.fieldLink RX6 19 RX6 "step" "[I" ∈ wg := wg_of (List.mem_of_getElem? (i := 715) (by decide +kernel)) (by decide +kernel)
theorem wF_X6_22 : Cond.fieldLink RX6 22 RX6 "arg" "[I" ∈ wg := wg_of (List.mem_of_getElem? (i := 716) (by decide +kernel)) (by decide +kernel)
theorem wF_X6_25 : Cond.fieldLink RX6 25 RX6 "madeEntry" "[I" ∈ wg := wg_of (List.mem_of_getElem? (i := 717) (by decide +kernel)) (by decide +kernel)
theorem wF_X6_28 : Cond.fieldLink RX6 28 RX6 "madeParams" "[I" ∈ wg := wg_of (List.mem_of_getElem? (i := 718) (by decide +kernel)) (by decide +kernel)
theorem wF_X6_31 : Cond.fieldLink RX6 31 RX6 "entry" "[I" ∈ wg := wg_of (List.mem_of_getElem? (i := 719) (by decide +kernel)) (by decide +kernel)
theorem wF_X6_34 : Cond.fieldLink RX6 34 RX6 "params" "[I" ∈ wg := wg_of (List.mem_of_getElem? (i := 720) (by decide +kernel)) (by decide +kernel)
theorem wF_X6_230 : Cond.fieldLink RX6 230 RX6 "functions" "I" ∈ wg := wg_of (List.mem_of_getElem? (i := 721) (by decide +kernel)) (by decide +kernel)
theorem wF_X6_162 : Cond.fieldLink RX6 162 RX6 "calls" "I" ∈ wg := wg_of (List.mem_of_getElem? (i := 722) (by decide +kernel)) (by decide +kernel)
theorem wF_X6_37 : Cond.fieldLink RX6 37 RX6 "callAt" "[I" ∈ wg := wg_of (List.mem_of_getElem? (i := 723) (by decide +kernel)) (by decide +kernel)
theorem wF_X6_40 : Cond.fieldLink RX6 40 RX6 "called" "[I" ∈ wg := wg_of (List.mem_of_getElem? (i := 724) (by decide +kernel)) (by decide +kernel)
theorem wF_X6_43 : Cond.fieldLink RX6 43 RX6 "given" "[I" ∈ wg := wg_of (List.mem_of_getElem? (i := 725) (by decide +kernel)) (by decide +kernel)
theorem wF_X6_140 : Cond.fieldLink RX6 140 RX6 "blocks" "I" ∈ wg := wg_of (List.mem_of_getElem? (i := 726) (by decide +kernel)) (by decide +kernel)
theorem wF_X6_46 : Cond.fieldLink RX6 46 RX6 "block" "[I" ∈ wg := wg_of (List.mem_of_getElem? (i := 727) (by decide +kernel)) (by decide +kernel)
theorem wF_X6_49 : Cond.fieldLink RX6 49 RX6 "fill" "[I" ∈ wg := wg_of (List.mem_of_getElem? (i := 728) (by decide +kernel)) (by decide +kernel)
theorem wF_X6_52 : Cond.fieldLink RX6 52 RX6 "back" "[I" ∈ wg := wg_of (List.mem_of_getElem? (i := 729) (by decide +kernel)) (by decide +kernel)
theorem wF_X6_146 : Cond.fieldLink RX6 146 RX6 "values" "I" ∈ wg := wg_of (List.mem_of_getElem? (i := 730) (by decide +kernel)) (by decide +kernel)
theorem wF_X6_55 : Cond.fieldLink RX6 55 RX6 "value" "[I" ∈ wg := wg_of (List.mem_of_getElem? (i := 731) (by decide +kernel)) (by decide +kernel)
theorem wF_X6_58 : Cond.fieldLink RX6 58 RX6 "sign" "[I" ∈ wg := wg_of (List.mem_of_getElem? (i := 732) (by decide +kernel)) (by decide +kernel)
theorem wF_X6_61 : Cond.fieldLink RX6 61 RX6 "base" "[I" ∈ wg := wg_of (List.mem_of_getElem? (i := 733) (by decide +kernel)) (by decide +kernel)
theorem wF_X6_64 : Cond.fieldLink RX6 64 RX6 "name" "[I" ∈ wg := wg_of (List.mem_of_getElem? (i := 734) (by decide +kernel)) (by decide +kernel)
theorem wF_X6_149 : Cond.fieldLink RX6 149 RX6 "waiting" "I" ∈ wg := wg_of (List.mem_of_getElem? (i := 735) (by decide +kernel)) (by decide +kernel)
theorem wF_X6_67 : Cond.fieldLink RX6 67 RX6 "operation" "[I" ∈ wg := wg_of (List.mem_of_getElem? (i := 736) (by decide +kernel)) (by decide +kernel)
theorem wF_X6_70 : Cond.fieldLink RX6 70 RX6 "level" "[I" ∈ wg := wg_of (List.mem_of_getElem? (i := 737) (by decide +kernel)) (by decide +kernel)
theorem wF_X6_174 : Cond.fieldLink RX6 174 RX6 "target" "I" ∈ wg := wg_of (List.mem_of_getElem? (i := 738) (by decide +kernel)) (by decide +kernel)
theorem wF_X6_171 : Cond.fieldLink RX6 171 RX6 "targetKind" "I" ∈ wg := wg_of (List.mem_of_getElem? (i := 739) (by decide +kernel)) (by decide +kernel)
theorem wF_X6_168 : Cond.fieldLink RX6 168 RX6 "begun" "I" ∈ wg := wg_of (List.mem_of_getElem? (i := 740) (by decide +kernel)) (by decide +kernel)
theorem wF_X6_233 : Cond.fieldLink RX6 233 RX6 "state" "I" ∈ wg := wg_of (List.mem_of_getElem? (i := 741) (by decide +kernel)) (by decide +kernel)
theorem wF_X6_239 : Cond.fieldLink RX6 239 RX6 "at" "I" ∈ wg := wg_of (List.mem_of_getElem? (i := 742) (by decide +kernel)) (by decide +kernel)
theorem wF_X6_215 : Cond.fieldLink RX6 215 RX6 "shownCount" "I" ∈ wg := wg_of (List.mem_of_getElem? (i := 743) (by decide +kernel)) (by decide +kernel)
theorem wF_X6_245 : Cond.fieldLink RX6 245 RX6 "keys" "I" ∈ wg := wg_of (List.mem_of_getElem? (i := 744) (by decide +kernel)) (by decide +kernel)
theorem wF_X6_218 : Cond.fieldLink RX6 218 RX6 "statements" "I" ∈ wg := wg_of (List.mem_of_getElem? (i := 745) (by decide +kernel)) (by decide +kernel)
theorem wF_X6_73 : Cond.fieldLink RX6 73 RX6 "globals" "[I" ∈ wg := wg_of (List.mem_of_getElem? (i := 746) (by decide +kernel)) (by decide +kernel)
theorem wF_X6_76 : Cond.fieldLink RX6 76 RX6 "arrays" "[I" ∈ wg := wg_of (List.mem_of_getElem? (i := 747) (by decide +kernel)) (by decide +kernel)
theorem wF_X6_79 : Cond.fieldLink RX6 79 RX6 "key" "[I" ∈ wg := wg_of (List.mem_of_getElem? (i := 748) (by decide +kernel)) (by decide +kernel)
theorem wF_X6_82 : Cond.fieldLink RX6 82 RX6 "shownRing" "[I" ∈ wg := wg_of (List.mem_of_getElem? (i := 749) (by decide +kernel)) (by decide +kernel)
theorem wF_X6_221 : Cond.fieldLink RX6 221 RX6 "running" "I" ∈ wg := wg_of (List.mem_of_getElem? (i := 750) (by decide +kernel)) (by decide +kernel)
theorem wF_X6_224 : Cond.fieldLink RX6 224 RX6 "top" "I" ∈ wg := wg_of (List.mem_of_getElem? (i := 751) (by decide +kernel)) (by decide +kernel)
theorem wF_X6_85 : Cond.fieldLink RX6 85 RX6 "locals" "[I" ∈ wg := wg_of (List.mem_of_getElem? (i := 752) (by decide +kernel)) (by decide +kernel)
theorem wF_X6_88 : Cond.fieldLink RX6 88 RX6 "returnTo" "[I" ∈ wg := wg_of (List.mem_of_getElem? (i := 753) (by decide +kernel)) (by decide +kernel)
theorem wF_X6_91 : Cond.fieldLink RX6 91 RX6 "floor" "[I" ∈ wg := wg_of (List.mem_of_getElem? (i := 754) (by decide +kernel)) (by decide +kernel)
theorem wF_X6_94 : Cond.fieldLink RX6 94 RX6 "pile" "[I" ∈ wg := wg_of (List.mem_of_getElem? (i := 755) (by decide +kernel)) (by decide +kernel)
theorem wM_L_49 : Cond.methodLink RL 49 yX6_thrown ∈ wg := wg_of (List.mem_of_getElem? (i := 861) (by decide +kernel)) (by decide +kernel)
theorem wN_X6_thrown : Cond.instanceMethod yX6_thrown ∈ wg := wg_of (List.mem_of_getElem? (i := 862) (by decide +kernel)) (by decide +kernel)
theorem wV_X6_thrown : Cond.selects RX6 yX6_thrown yX6_thrown ∈ wg := wg_of (List.mem_of_getElem? (i := 863) (by decide +kernel)) (by decide +kernel)
theorem wC_X6_thrown : Cond.code yX6_thrown cX6_thrown 1 (some .int) ∈ wg := wg_of (List.mem_of_getElem? (i := 864) (by decide +kernel)) (by decide +kernel)
theorem wM_L_48 : Cond.methodLink RL 48 yX6_words ∈ wg := wg_of (List.mem_of_getElem? (i := 865) (by decide +kernel)) (by decide +kernel)
theorem wN_X6_words : Cond.instanceMethod yX6_words ∈ wg := wg_of (List.mem_of_getElem? (i := 866) (by decide +kernel)) (by decide +kernel)
theorem wV_X6_words : Cond.selects RX6 yX6_words yX6_words ∈ wg := wg_of (List.mem_of_getElem? (i := 867) (by decide +kernel)) (by decide +kernel)
theorem wC_X6_words : Cond.code yX6_words cX6_words 5 (some .int) ∈ wg := wg_of (List.mem_of_getElem? (i := 868) (by decide +kernel)) (by decide +kernel)
theorem wM_L_56 : Cond.methodLink RL 56 yX6_compile ∈ wg := wg_of (List.mem_of_getElem? (i := 869) (by decide +kernel)) (by decide +kernel)
theorem wN_X6_compile : Cond.instanceMethod yX6_compile ∈ wg := wg_of (List.mem_of_getElem? (i := 870) (by decide +kernel)) (by decide +kernel)
theorem wV_X6_compile : Cond.selects RX6 yX6_compile yX6_compile ∈ wg := wg_of (List.mem_of_getElem? (i := 871) (by decide +kernel)) (by decide +kernel)
theorem wC_X6_compile : Cond.code yX6_compile cX6_compile 2 (some .int) ∈ wg := wg_of (List.mem_of_getElem? (i := 872) (by decide +kernel)) (by decide +kernel)
theorem wM_X6_227 : Cond.methodLink RX6 227 yX6_readText ∈ wg := wg_of (List.mem_of_getElem? (i := 873) (by decide +kernel)) (by decide +kernel)
theorem wN_X6_readText : Cond.instanceMethod yX6_readText ∈ wg := wg_of (List.mem_of_getElem? (i := 875) (by decide +kernel)) (by decide +kernel)
theorem wC_X6_readText : Cond.code yX6_readText cX6_readText 3 none ∈ wg := wg_of (List.mem_of_getElem? (i := 876) (by decide +kernel)) (by decide +kernel)
theorem wM_X6_203 : Cond.methodLink RX6 203 yX6_function ∈ wg := wg_of (List.mem_of_getElem? (i := 877) (by decide +kernel)) (by decide +kernel)
theorem wN_X6_function : Cond.instanceMethod yX6_function ∈ wg := wg_of (List.mem_of_getElem? (i := 879) (by decide +kernel)) (by decide +kernel)
theorem wC_X6_function : Cond.code yX6_function cX6_function 2 none ∈ wg := wg_of (List.mem_of_getElem? (i := 880) (by decide +kernel)) (by decide +kernel)
theorem wM_X6_113 : Cond.methodLink RX6 113 yX6_token ∈ wg := wg_of (List.mem_of_getElem? (i := 881) (by decide +kernel)) (by decide +kernel)
theorem wN_X6_token : Cond.instanceMethod yX6_token ∈ wg := wg_of (List.mem_of_getElem? (i := 883) (by decide +kernel)) (by decide +kernel)
theorem wC_X6_token : Cond.code yX6_token cX6_token 1 (some .int) ∈ wg := wg_of (List.mem_of_getElem? (i := 884) (by decide +kernel)) (by decide +kernel)
theorem wM_X6_128 : Cond.methodLink RX6 128 yX6_must ∈ wg := wg_of (List.mem_of_getElem? (i := 885) (by decide +kernel)) (by decide +kernel)
theorem wN_X6_must : Cond.instanceMethod yX6_must ∈ wg := wg_of (List.mem_of_getElem? (i := 887) (by decide +kernel)) (by decide +kernel)
theorem wC_X6_must : Cond.code yX6_must cX6_must 2 (some .boolean) ∈ wg := wg_of (List.mem_of_getElem? (i := 888) (by decide +kernel)) (by decide +kernel)
theorem wM_X6_117 : Cond.methodLink RX6 117 yX6_wrong ∈ wg := wg_of (List.mem_of_getElem? (i := 889) (by decide +kernel)) (by decide +kernel)
theorem wN_X6_wrong : Cond.instanceMethod yX6_wrong ∈ wg := wg_of (List.mem_of_getElem? (i := 891) (by decide +kernel)) (by decide +kernel)
theorem wC_X6_wrong : Cond.code yX6_wrong cX6_wrong 3 none ∈ wg := wg_of (List.mem_of_getElem? (i := 892) (by decide +kernel)) (by decide +kernel)
theorem wM_X6_132 : Cond.methodLink RX6 132 yX6_in ∈ wg := wg_of (List.mem_of_getElem? (i := 893) (by decide +kernel)) (by decide +kernel)
theorem wS_X6_in : Cond.static yX6_in ∈ wg := wg_of (List.mem_of_getElem? (i := 894) (by decide +kernel)) (by decide +kernel)
theorem wC_X6_in : Cond.code yX6_in cX6_in 3 (some .boolean) ∈ wg := wg_of (List.mem_of_getElem? (i := 895) (by decide +kernel)) (by decide +kernel)
theorem wM_X6_136 : Cond.methodLink RX6 136 yX6_begins ∈ wg := wg_of (List.mem_of_getElem? (i := 896) (by decide +kernel)) (by decide +kernel)
theorem wN_X6_begins : Cond.instanceMethod yX6_begins ∈ wg := wg_of (List.mem_of_getElem? (i := 898) (by decide +kernel)) (by decide +kernel)
theorem wC_X6_begins : Cond.code yX6_begins cX6_begins 4 none ∈ wg := wg_of (List.mem_of_getElem? (i := 899) (by decide +kernel)) (by decide +kernel)
theorem wM_X6_206 : Cond.methodLink RX6 206 yX6_statement ∈ wg := wg_of (List.mem_of_getElem? (i := 900) (by decide +kernel)) (by decide +kernel)
theorem wN_X6_statement : Cond.instanceMethod yX6_statement ∈ wg := wg_of (List.mem_of_getElem? (i := 902) (by decide +kernel)) (by decide +kernel)
theorem wC_X6_statement : Cond.code yX6_statement cX6_statement 3 none ∈ wg := wg_of (List.mem_of_getElem? (i := 903) (by decide +kernel)) (by decide +kernel)
theorem wM_X6_165 : Cond.methodLink RX6 165 yX6_blockEnds ∈ wg := wg_of (List.mem_of_getElem? (i := 904) (by decide +kernel)) (by decide +kernel)
theorem wN_X6_blockEnds : Cond.instanceMethod yX6_blockEnds ∈ wg := wg_of (List.mem_of_getElem? (i := 906) (by decide +kernel)) (by decide +kernel)
theorem wC_X6_blockEnds : Cond.code yX6_blockEnds cX6_blockEnds 3 none ∈ wg := wg_of (List.mem_of_getElem? (i := 907) (by decide +kernel)) (by decide +kernel)
theorem wM_X6_158 : Cond.methodLink RX6 158 yX6_emit ∈ wg := wg_of (List.mem_of_getElem? (i := 908) (by decide +kernel)) (by decide +kernel)
theorem wN_X6_emit : Cond.instanceMethod yX6_emit ∈ wg := wg_of (List.mem_of_getElem? (i := 910) (by decide +kernel)) (by decide +kernel)
theorem wC_X6_emit : Cond.code yX6_emit cX6_emit 3 (some .int) ∈ wg := wg_of (List.mem_of_getElem? (i := 911) (by decide +kernel)) (by decide +kernel)
theorem wM_X6_177 : Cond.methodLink RX6 177 yX6_worth ∈ wg := wg_of (List.mem_of_getElem? (i := 912) (by decide +kernel)) (by decide +kernel)
theorem wN_X6_worth : Cond.instanceMethod yX6_worth ∈ wg := wg_of (List.mem_of_getElem? (i := 914) (by decide +kernel)) (by decide +kernel)
theorem wC_X6_worth : Cond.code yX6_worth cX6_worth 2 none ∈ wg := wg_of (List.mem_of_getElem? (i := 915) (by decide +kernel)) (by decide +kernel)
theorem wM_X6_152 : Cond.methodLink RX6 152 yX6_enters ∈ wg := wg_of (List.mem_of_getElem? (i := 916) (by decide +kernel)) (by decide +kernel)
theorem wN_X6_enters : Cond.instanceMethod yX6_enters ∈ wg := wg_of (List.mem_of_getElem? (i := 918) (by decide +kernel)) (by decide +kernel)
theorem wC_X6_enters : Cond.code yX6_enters cX6_enters 3 none ∈ wg := wg_of (List.mem_of_getElem? (i := 919) (by decide +kernel)) (by decide +kernel)
theorem wM_X6_155 : Cond.methodLink RX6 155 yX6_fresh ∈ wg := wg_of (List.mem_of_getElem? (i := 920) (by decide +kernel)) (by decide +kernel)
theorem wN_X6_fresh : Cond.instanceMethod yX6_fresh ∈ wg := wg_of (List.mem_of_getElem? (i := 922) (by decide +kernel)) (by decide +kernel)
theorem wC_X6_fresh : Cond.code yX6_fresh cX6_fresh 1 none ∈ wg := wg_of (List.mem_of_getElem? (i := 923) (by decide +kernel)) (by decide +kernel)
theorem wM_X6_181 : Cond.methodLink RX6 181 yX6_call ∈ wg := wg_of (List.mem_of_getElem? (i := 924) (by decide +kernel)) (by decide +kernel)
theorem wN_X6_call : Cond.instanceMethod yX6_call ∈ wg := wg_of (List.mem_of_getElem? (i := 926) (by decide +kernel)) (by decide +kernel)
theorem wC_X6_call : Cond.code yX6_call cX6_call 1 (some .int) ∈ wg := wg_of (List.mem_of_getElem? (i := 927) (by decide +kernel)) (by decide +kernel)
theorem wM_X6_184 : Cond.methodLink RX6 184 yX6_callEnds ∈ wg := wg_of (List.mem_of_getElem? (i := 928) (by decide +kernel)) (by decide +kernel)
theorem wN_X6_callEnds : Cond.instanceMethod yX6_callEnds ∈ wg := wg_of (List.mem_of_getElem? (i := 930) (by decide +kernel)) (by decide +kernel)
theorem wC_X6_callEnds : Cond.code yX6_callEnds cX6_callEnds 2 none ∈ wg := wg_of (List.mem_of_getElem? (i := 931) (by decide +kernel)) (by decide +kernel)
theorem wM_X6_209 : Cond.methodLink RX6 209 yX6_piece ∈ wg := wg_of (List.mem_of_getElem? (i := 932) (by decide +kernel)) (by decide +kernel)
theorem wN_X6_piece : Cond.instanceMethod yX6_piece ∈ wg := wg_of (List.mem_of_getElem? (i := 934) (by decide +kernel)) (by decide +kernel)
theorem wC_X6_piece : Cond.code yX6_piece cX6_piece 4 none ∈ wg := wg_of (List.mem_of_getElem? (i := 935) (by decide +kernel)) (by decide +kernel)
theorem wM_X6_187 : Cond.methodLink RX6 187 yX6_arguments ∈ wg := wg_of (List.mem_of_getElem? (i := 936) (by decide +kernel)) (by decide +kernel)
theorem wN_X6_arguments : Cond.instanceMethod yX6_arguments ∈ wg := wg_of (List.mem_of_getElem? (i := 938) (by decide +kernel)) (by decide +kernel)
theorem wC_X6_arguments : Cond.code yX6_arguments cX6_arguments 2 none ∈ wg := wg_of (List.mem_of_getElem? (i := 939) (by decide +kernel)) (by decide +kernel)
theorem wM_X6_212 : Cond.methodLink RX6 212 yX6_behind ∈ wg := wg_of (List.mem_of_getElem? (i := 940) (by decide +kernel)) (by decide +kernel)
theorem wN_X6_behind : Cond.instanceMethod yX6_behind ∈ wg := wg_of (List.mem_of_getElem? (i := 942) (by decide +kernel)) (by decide +kernel)
theorem wC_X6_behind : Cond.code yX6_behind cX6_behind 4 none ∈ wg := wg_of (List.mem_of_getElem? (i := 943) (by decide +kernel)) (by decide +kernel)
theorem wM_X6_190 : Cond.methodLink RX6 190 yX6_levelOf ∈ wg := wg_of (List.mem_of_getElem? (i := 944) (by decide +kernel)) (by decide +kernel)
theorem wS_X6_levelOf : Cond.static yX6_levelOf ∈ wg := wg_of (List.mem_of_getElem? (i := 945) (by decide +kernel)) (by decide +kernel)
theorem wC_X6_levelOf : Cond.code yX6_levelOf cX6_levelOf 1 (some .int) ∈ wg := wg_of (List.mem_of_getElem? (i := 946) (by decide +kernel)) (by decide +kernel)
theorem wM_X6_194 : Cond.methodLink RX6 194 yX6_reduce ∈ wg := wg_of (List.mem_of_getElem? (i := 947) (by decide +kernel)) (by decide +kernel)
theorem wN_X6_reduce : Cond.instanceMethod yX6_reduce ∈ wg := wg_of (List.mem_of_getElem? (i := 949) (by decide +kernel)) (by decide +kernel)
theorem wC_X6_reduce : Cond.code yX6_reduce cX6_reduce 2 none ∈ wg := wg_of (List.mem_of_getElem? (i := 950) (by decide +kernel)) (by decide +kernel)
theorem wM_X6_197 : Cond.methodLink RX6 197 yX6_valueEnds ∈ wg := wg_of (List.mem_of_getElem? (i := 951) (by decide +kernel)) (by decide +kernel)
theorem wN_X6_valueEnds : Cond.instanceMethod yX6_valueEnds ∈ wg := wg_of (List.mem_of_getElem? (i := 953) (by decide +kernel)) (by decide +kernel)
theorem wC_X6_valueEnds : Cond.code yX6_valueEnds cX6_valueEnds 4 none ∈ wg := wg_of (List.mem_of_getElem? (i := 954) (by decide +kernel)) (by decide +kernel)
theorem wM_X6_200 : Cond.methodLink RX6 200 yX6_argumentEnds ∈ wg := wg_of (List.mem_of_getElem? (i := 955) (by decide +kernel)) (by decide +kernel)
theorem wN_X6_argumentEnds : Cond.instanceMethod yX6_argumentEnds ∈ wg := wg_of (List.mem_of_getElem? (i := 957) (by decide +kernel)) (by decide +kernel)
theorem wC_X6_argumentEnds : Cond.code yX6_argumentEnds cX6_argumentEnds 3 none ∈ wg := wg_of (List.mem_of_getElem? (i := 958) (by decide +kernel)) (by decide +kernel)
theorem wM_X6_236 : Cond.methodLink RX6 236 yX6_nothing ∈ wg := wg_of (List.mem_of_getElem? (i := 959) (by decide +kernel)) (by decide +kernel)
theorem wN_X6_nothing : Cond.instanceMethod yX6_nothing ∈ wg := wg_of (List.mem_of_getElem? (i := 961) (by decide +kernel)) (by decide +kernel)
theorem wC_X6_nothing : Cond.code yX6_nothing cX6_nothing 2 none ∈ wg := wg_of (List.mem_of_getElem? (i := 962) (by decide +kernel)) (by decide +kernel)
theorem wM_L_60 : Cond.methodLink RL 60 yX6_start ∈ wg := wg_of (List.mem_of_getElem? (i := 963) (by decide +kernel)) (by decide +kernel)
theorem wN_X6_start : Cond.instanceMethod yX6_start ∈ wg := wg_of (List.mem_of_getElem? (i := 964) (by decide +kernel)) (by decide +kernel)
theorem wV_X6_start : Cond.selects RX6 yX6_start yX6_start ∈ wg := wg_of (List.mem_of_getElem? (i := 965) (by decide +kernel)) (by decide +kernel)
theorem wC_X6_start : Cond.code yX6_start cX6_start 1 (some .boolean) ∈ wg := wg_of (List.mem_of_getElem? (i := 966) (by decide +kernel)) (by decide +kernel)
theorem wM_X6_242 : Cond.methodLink RX6 242 yX6_enter ∈ wg := wg_of (List.mem_of_getElem? (i := 967) (by decide +kernel)) (by decide +kernel)
theorem wN_X6_enter : Cond.instanceMethod yX6_enter ∈ wg := wg_of (List.mem_of_getElem? (i := 969) (by decide +kernel)) (by decide +kernel)
theorem wC_X6_enter : Cond.code yX6_enter cX6_enter 4 none ∈ wg := wg_of (List.mem_of_getElem? (i := 970) (by decide +kernel)) (by decide +kernel)
theorem wM_L_64 : Cond.methodLink RL 64 yX6_key ∈ wg := wg_of (List.mem_of_getElem? (i := 971) (by decide +kernel)) (by decide +kernel)
theorem wN_X6_key : Cond.instanceMethod yX6_key ∈ wg := wg_of (List.mem_of_getElem? (i := 972) (by decide +kernel)) (by decide +kernel)
theorem wV_X6_key : Cond.selects RX6 yX6_key yX6_key ∈ wg := wg_of (List.mem_of_getElem? (i := 973) (by decide +kernel)) (by decide +kernel)
theorem wC_X6_key : Cond.code yX6_key cX6_key 2 (some .int) ∈ wg := wg_of (List.mem_of_getElem? (i := 974) (by decide +kernel)) (by decide +kernel)
theorem wM_L_67 : Cond.methodLink RL 67 yX6_run ∈ wg := wg_of (List.mem_of_getElem? (i := 975) (by decide +kernel)) (by decide +kernel)
theorem wN_X6_run : Cond.instanceMethod yX6_run ∈ wg := wg_of (List.mem_of_getElem? (i := 976) (by decide +kernel)) (by decide +kernel)
theorem wV_X6_run : Cond.selects RX6 yX6_run yX6_run ∈ wg := wg_of (List.mem_of_getElem? (i := 977) (by decide +kernel)) (by decide +kernel)
theorem wC_X6_run : Cond.code yX6_run cX6_run 4 (some .int) ∈ wg := wg_of (List.mem_of_getElem? (i := 978) (by decide +kernel)) (by decide +kernel)
theorem wM_X6_275 : Cond.methodLink RX6 275 yX6_does ∈ wg := wg_of (List.mem_of_getElem? (i := 979) (by decide +kernel)) (by decide +kernel)
theorem wN_X6_does : Cond.instanceMethod yX6_does ∈ wg := wg_of (List.mem_of_getElem? (i := 981) (by decide +kernel)) (by decide +kernel)
theorem wC_X6_does : Cond.code yX6_does cX6_does 4 none ∈ wg := wg_of (List.mem_of_getElem? (i := 982) (by decide +kernel)) (by decide +kernel)
theorem wM_X6_251 : Cond.methodLink RX6 251 yX6_push ∈ wg := wg_of (List.mem_of_getElem? (i := 983) (by decide +kernel)) (by decide +kernel)
theorem wN_X6_push : Cond.instanceMethod yX6_push ∈ wg := wg_of (List.mem_of_getElem? (i := 985) (by decide +kernel)) (by decide +kernel)
theorem wC_X6_push : Cond.code yX6_push cX6_push 2 none ∈ wg := wg_of (List.mem_of_getElem? (i := 986) (by decide +kernel)) (by decide +kernel)
theorem wM_X6_248 : Cond.methodLink RX6 248 yX6_wrap ∈ wg := wg_of (List.mem_of_getElem? (i := 987) (by decide +kernel)) (by decide +kernel)
theorem wS_X6_wrap : Cond.static yX6_wrap ∈ wg := wg_of (List.mem_of_getElem? (i := 988) (by decide +kernel)) (by decide +kernel)
theorem wC_X6_wrap : Cond.code yX6_wrap cX6_wrap 1 (some .int) ∈ wg := wg_of (List.mem_of_getElem? (i := 989) (by decide +kernel)) (by decide +kernel)
theorem wM_X6_257 : Cond.methodLink RX6 257 yX6_reads ∈ wg := wg_of (List.mem_of_getElem? (i := 990) (by decide +kernel)) (by decide +kernel)
theorem wN_X6_reads : Cond.instanceMethod yX6_reads ∈ wg := wg_of (List.mem_of_getElem? (i := 992) (by decide +kernel)) (by decide +kernel)
theorem wC_X6_reads : Cond.code yX6_reads cX6_reads 2 none ∈ wg := wg_of (List.mem_of_getElem? (i := 993) (by decide +kernel)) (by decide +kernel)
theorem wM_X6_260 : Cond.methodLink RX6 260 yX6_place ∈ wg := wg_of (List.mem_of_getElem? (i := 994) (by decide +kernel)) (by decide +kernel)
theorem wN_X6_place : Cond.instanceMethod yX6_place ∈ wg := wg_of (List.mem_of_getElem? (i := 996) (by decide +kernel)) (by decide +kernel)
theorem wC_X6_place : Cond.code yX6_place cX6_place 5 none ∈ wg := wg_of (List.mem_of_getElem? (i := 997) (by decide +kernel)) (by decide +kernel)
theorem wM_X6_254 : Cond.methodLink RX6 254 yX6_pop ∈ wg := wg_of (List.mem_of_getElem? (i := 998) (by decide +kernel)) (by decide +kernel)
theorem wN_X6_pop : Cond.instanceMethod yX6_pop ∈ wg := wg_of (List.mem_of_getElem? (i := 1000) (by decide +kernel)) (by decide +kernel)
theorem wC_X6_pop : Cond.code yX6_pop cX6_pop 1 (some .int) ∈ wg := wg_of (List.mem_of_getElem? (i := 1001) (by decide +kernel)) (by decide +kernel)
theorem wM_X6_264 : Cond.methodLink RX6 264 yX6_calls ∈ wg := wg_of (List.mem_of_getElem? (i := 1002) (by decide +kernel)) (by decide +kernel)
theorem wN_X6_calls : Cond.instanceMethod yX6_calls ∈ wg := wg_of (List.mem_of_getElem? (i := 1004) (by decide +kernel)) (by decide +kernel)
theorem wC_X6_calls : Cond.code yX6_calls cX6_calls 5 none ∈ wg := wg_of (List.mem_of_getElem? (i := 1005) (by decide +kernel)) (by decide +kernel)
theorem wM_X6_266 : Cond.methodLink RX6 266 yX6_returns ∈ wg := wg_of (List.mem_of_getElem? (i := 1006) (by decide +kernel)) (by decide +kernel)
theorem wN_X6_returns : Cond.instanceMethod yX6_returns ∈ wg := wg_of (List.mem_of_getElem? (i := 1008) (by decide +kernel)) (by decide +kernel)
theorem wC_X6_returns : Cond.code yX6_returns cX6_returns 2 none ∈ wg := wg_of (List.mem_of_getElem? (i := 1009) (by decide +kernel)) (by decide +kernel)
theorem wM_X6_269 : Cond.methodLink RX6 269 yX6_prints ∈ wg := wg_of (List.mem_of_getElem? (i := 1010) (by decide +kernel)) (by decide +kernel)
theorem wN_X6_prints : Cond.instanceMethod yX6_prints ∈ wg := wg_of (List.mem_of_getElem? (i := 1012) (by decide +kernel)) (by decide +kernel)
theorem wC_X6_prints : Cond.code yX6_prints cX6_prints 1 none ∈ wg := wg_of (List.mem_of_getElem? (i := 1013) (by decide +kernel)) (by decide +kernel)
theorem wM_X6_272 : Cond.methodLink RX6 272 yX6_operates ∈ wg := wg_of (List.mem_of_getElem? (i := 1014) (by decide +kernel)) (by decide +kernel)
theorem wN_X6_operates : Cond.instanceMethod yX6_operates ∈ wg := wg_of (List.mem_of_getElem? (i := 1016) (by decide +kernel)) (by decide +kernel)
theorem wC_X6_operates : Cond.code yX6_operates cX6_operates 4 none ∈ wg := wg_of (List.mem_of_getElem? (i := 1017) (by decide +kernel)) (by decide +kernel)
theorem wM_L_70 : Cond.methodLink RL 70 yX6_shown ∈ wg := wg_of (List.mem_of_getElem? (i := 1018) (by decide +kernel)) (by decide +kernel)
theorem wN_X6_shown : Cond.instanceMethod yX6_shown ∈ wg := wg_of (List.mem_of_getElem? (i := 1019) (by decide +kernel)) (by decide +kernel)
theorem wV_X6_shown : Cond.selects RX6 yX6_shown yX6_shown ∈ wg := wg_of (List.mem_of_getElem? (i := 1020) (by decide +kernel)) (by decide +kernel)
theorem wC_X6_shown : Cond.code yX6_shown cX6_shown 2 (some .int) ∈ wg := wg_of (List.mem_of_getElem? (i := 1021) (by decide +kernel)) (by decide +kernel)
theorem wM_L_73 : Cond.methodLink RL 73 yX6_global ∈ wg := wg_of (List.mem_of_getElem? (i := 1022) (by decide +kernel)) (by decide +kernel)
theorem wN_X6_global : Cond.instanceMethod yX6_global ∈ wg := wg_of (List.mem_of_getElem? (i := 1023) (by decide +kernel)) (by decide +kernel)
theorem wV_X6_global : Cond.selects RX6 yX6_global yX6_global ∈ wg := wg_of (List.mem_of_getElem? (i := 1024) (by decide +kernel)) (by decide +kernel)
theorem wC_X6_global : Cond.code yX6_global cX6_global 2 (some .int) ∈ wg := wg_of (List.mem_of_getElem? (i := 1025) (by decide +kernel)) (by decide +kernel)
theorem wM_L_76 : Cond.methodLink RL 76 yX6_array ∈ wg := wg_of (List.mem_of_getElem? (i := 1026) (by decide +kernel)) (by decide +kernel)
theorem wN_X6_array : Cond.instanceMethod yX6_array ∈ wg := wg_of (List.mem_of_getElem? (i := 1027) (by decide +kernel)) (by decide +kernel)
theorem wV_X6_array : Cond.selects RX6 yX6_array yX6_array ∈ wg := wg_of (List.mem_of_getElem? (i := 1028) (by decide +kernel)) (by decide +kernel)
theorem wC_X6_array : Cond.code yX6_array cX6_array 3 (some .int) ∈ wg := wg_of (List.mem_of_getElem? (i := 1029) (by decide +kernel)) (by decide +kernel)
theorem wM_L_80 : Cond.methodLink RL 80 yX6_about ∈ wg := wg_of (List.mem_of_getElem? (i := 1030) (by decide +kernel)) (by decide +kernel)
theorem wN_X6_about : Cond.instanceMethod yX6_about ∈ wg := wg_of (List.mem_of_getElem? (i := 1031) (by decide +kernel)) (by decide +kernel)
theorem wV_X6_about : Cond.selects RX6 yX6_about yX6_about ∈ wg := wg_of (List.mem_of_getElem? (i := 1032) (by decide +kernel)) (by decide +kernel)
theorem wC_X6_about : Cond.code yX6_about cX6_about 2 (some .int) ∈ wg := wg_of (List.mem_of_getElem? (i := 1033) (by decide +kernel)) (by decide +kernel)
theorem wV_X0_clear : Cond.selects RX0 yX0_clear yX0_clear ∈ wg := wg_of (List.mem_of_getElem? (i := 0) (by decide +kernel)) (by decide +kernel)
theorem wV_X0_now : Cond.selects RX0 yX0_now yX0_now ∈ wg := wg_of (List.mem_of_getElem? (i := 1) (by decide +kernel)) (by decide +kernel)
theorem wV_X0_readFunction : Cond.selects RX0 yX0_readFunction yX0_readFunction ∈ wg := wg_of (List.mem_of_getElem? (i := 2) (by decide +kernel)) (by decide +kernel)
theorem wV_X0_expect : Cond.selects RX0 yX0_expect yX0_expect ∈ wg := wg_of (List.mem_of_getElem? (i := 3) (by decide +kernel)) (by decide +kernel)
theorem wV_X0_fail : Cond.selects RX0 yX0_fail yX0_fail ∈ wg := wg_of (List.mem_of_getElem? (i := 4) (by decide +kernel)) (by decide +kernel)
theorem wV_X0_next : Cond.selects RX0 yX0_next yX0_next ∈ wg := wg_of (List.mem_of_getElem? (i := 5) (by decide +kernel)) (by decide +kernel)
theorem wV_X0_readBlock : Cond.selects RX0 yX0_readBlock yX0_readBlock ∈ wg := wg_of (List.mem_of_getElem? (i := 6) (by decide +kernel)) (by decide +kernel)
theorem wV_X0_readStatement : Cond.selects RX0 yX0_readStatement yX0_readStatement ∈ wg := wg_of (List.mem_of_getElem? (i := 7) (by decide +kernel)) (by decide +kernel)
theorem wV_X0_readIf : Cond.selects RX0 yX0_readIf yX0_readIf ∈ wg := wg_of (List.mem_of_getElem? (i := 8) (by decide +kernel)) (by decide +kernel)
theorem wV_X0_readChoice : Cond.selects RX0 yX0_readChoice yX0_readChoice ∈ wg := wg_of (List.mem_of_getElem? (i := 9) (by decide +kernel)) (by decide +kernel)
theorem wV_X0_readValue : Cond.selects RX0 yX0_readValue yX0_readValue ∈ wg := wg_of (List.mem_of_getElem? (i := 10) (by decide +kernel)) (by decide +kernel)
theorem wV_X0_readSum : Cond.selects RX0 yX0_readSum yX0_readSum ∈ wg := wg_of (List.mem_of_getElem? (i := 11) (by decide +kernel)) (by decide +kernel)
theorem wV_X0_readProduct : Cond.selects RX0 yX0_readProduct yX0_readProduct ∈ wg := wg_of (List.mem_of_getElem? (i := 12) (by decide +kernel)) (by decide +kernel)
theorem wV_X0_readPart : Cond.selects RX0 yX0_readPart yX0_readPart ∈ wg := wg_of (List.mem_of_getElem? (i := 13) (by decide +kernel)) (by decide +kernel)
theorem wV_X0_readPiece : Cond.selects RX0 yX0_readPiece yX0_readPiece ∈ wg := wg_of (List.mem_of_getElem? (i := 14) (by decide +kernel)) (by decide +kernel)
theorem wV_X0_readCall : Cond.selects RX0 yX0_readCall yX0_readCall ∈ wg := wg_of (List.mem_of_getElem? (i := 15) (by decide +kernel)) (by decide +kernel)
theorem wV_X0_readIndex : Cond.selects RX0 yX0_readIndex yX0_readIndex ∈ wg := wg_of (List.mem_of_getElem? (i := 16) (by decide +kernel)) (by decide +kernel)
theorem wV_X0_readSingle : Cond.selects RX0 yX0_readSingle yX0_readSingle ∈ wg := wg_of (List.mem_of_getElem? (i := 17) (by decide +kernel)) (by decide +kernel)
theorem wV_X0_readWhile : Cond.selects RX0 yX0_readWhile yX0_readWhile ∈ wg := wg_of (List.mem_of_getElem? (i := 18) (by decide +kernel)) (by decide +kernel)
theorem wV_X0_readWord : Cond.selects RX0 yX0_readWord yX0_readWord ∈ wg := wg_of (List.mem_of_getElem? (i := 19) (by decide +kernel)) (by decide +kernel)
theorem wV_X0_readSetting : Cond.selects RX0 yX0_readSetting yX0_readSetting ∈ wg := wg_of (List.mem_of_getElem? (i := 20) (by decide +kernel)) (by decide +kernel)
theorem wV_X0_checkCalls : Cond.selects RX0 yX0_checkCalls yX0_checkCalls ∈ wg := wg_of (List.mem_of_getElem? (i := 21) (by decide +kernel)) (by decide +kernel)
theorem wV_X0_checkCall : Cond.selects RX0 yX0_checkCall yX0_checkCall ∈ wg := wg_of (List.mem_of_getElem? (i := 22) (by decide +kernel)) (by decide +kernel)
theorem wV_X2_enter : Cond.selects RX2 yX2_enter yX2_enter ∈ wg := wg_of (List.mem_of_getElem? (i := 24) (by decide +kernel)) (by decide +kernel)
theorem wV_X2_setLocal : Cond.selects RX2 yX2_setLocal yX2_setLocal ∈ wg := wg_of (List.mem_of_getElem? (i := 25) (by decide +kernel)) (by decide +kernel)
theorem wV_X2_pop : Cond.selects RX2 yX2_pop yX2_pop ∈ wg := wg_of (List.mem_of_getElem? (i := 26) (by decide +kernel)) (by decide +kernel)
theorem wV_X2_act : Cond.selects RX2 yX2_act yX2_act ∈ wg := wg_of (List.mem_of_getElem? (i := 27) (by decide +kernel)) (by decide +kernel)
theorem wV_X2_leave : Cond.selects RX2 yX2_leave yX2_leave ∈ wg := wg_of (List.mem_of_getElem? (i := 28) (by decide +kernel)) (by decide +kernel)
theorem wV_X2_push : Cond.selects RX2 yX2_push yX2_push ∈ wg := wg_of (List.mem_of_getElem? (i := 29) (by decide +kernel)) (by decide +kernel)
theorem wV_X2_call : Cond.selects RX2 yX2_call yX2_call ∈ wg := wg_of (List.mem_of_getElem? (i := 30) (by decide +kernel)) (by decide +kernel)
theorem wV_X2_show : Cond.selects RX2 yX2_show yX2_show ∈ wg := wg_of (List.mem_of_getElem? (i := 31) (by decide +kernel)) (by decide +kernel)
theorem wV_X2_read : Cond.selects RX2 yX2_read yX2_read ∈ wg := wg_of (List.mem_of_getElem? (i := 32) (by decide +kernel)) (by decide +kernel)
theorem wV_X2_actOnVariable : Cond.selects RX2 yX2_actOnVariable yX2_actOnVariable ∈ wg := wg_of (List.mem_of_getElem? (i := 33) (by decide +kernel)) (by decide +kernel)
theorem wV_X2_setGlobal : Cond.selects RX2 yX2_setGlobal yX2_setGlobal ∈ wg := wg_of (List.mem_of_getElem? (i := 34) (by decide +kernel)) (by decide +kernel)
theorem wV_X2_localAt : Cond.selects RX2 yX2_localAt yX2_localAt ∈ wg := wg_of (List.mem_of_getElem? (i := 35) (by decide +kernel)) (by decide +kernel)
theorem wV_X2_getPlace : Cond.selects RX2 yX2_getPlace yX2_getPlace ∈ wg := wg_of (List.mem_of_getElem? (i := 36) (by decide +kernel)) (by decide +kernel)
theorem wV_X2_setPlace : Cond.selects RX2 yX2_setPlace yX2_setPlace ∈ wg := wg_of (List.mem_of_getElem? (i := 37) (by decide +kernel)) (by decide +kernel)
theorem wV_X2_combine : Cond.selects RX2 yX2_combine yX2_combine ∈ wg := wg_of (List.mem_of_getElem? (i := 38) (by decide +kernel)) (by decide +kernel)
theorem wV_X2_divide : Cond.selects RX2 yX2_divide yX2_divide ∈ wg := wg_of (List.mem_of_getElem? (i := 39) (by decide +kernel)) (by decide +kernel)
theorem wV_X6_readText : Cond.selects RX6 yX6_readText yX6_readText ∈ wg := wg_of (List.mem_of_getElem? (i := 40) (by decide +kernel)) (by decide +kernel)
theorem wV_X6_function : Cond.selects RX6 yX6_function yX6_function ∈ wg := wg_of (List.mem_of_getElem? (i := 41) (by decide +kernel)) (by decide +kernel)
theorem wV_X6_token : Cond.selects RX6 yX6_token yX6_token ∈ wg := wg_of (List.mem_of_getElem? (i := 42) (by decide +kernel)) (by decide +kernel)
theorem wV_X6_must : Cond.selects RX6 yX6_must yX6_must ∈ wg := wg_of (List.mem_of_getElem? (i := 43) (by decide +kernel)) (by decide +kernel)
theorem wV_X6_wrong : Cond.selects RX6 yX6_wrong yX6_wrong ∈ wg := wg_of (List.mem_of_getElem? (i := 44) (by decide +kernel)) (by decide +kernel)
theorem wV_X6_begins : Cond.selects RX6 yX6_begins yX6_begins ∈ wg := wg_of (List.mem_of_getElem? (i := 45) (by decide +kernel)) (by decide +kernel)
theorem wV_X6_statement : Cond.selects RX6 yX6_statement yX6_statement ∈ wg := wg_of (List.mem_of_getElem? (i := 46) (by decide +kernel)) (by decide +kernel)
theorem wV_X6_blockEnds : Cond.selects RX6 yX6_blockEnds yX6_blockEnds ∈ wg := wg_of (List.mem_of_getElem? (i := 47) (by decide +kernel)) (by decide +kernel)
theorem wV_X6_emit : Cond.selects RX6 yX6_emit yX6_emit ∈ wg := wg_of (List.mem_of_getElem? (i := 48) (by decide +kernel)) (by decide +kernel)
theorem wV_X6_worth : Cond.selects RX6 yX6_worth yX6_worth ∈ wg := wg_of (List.mem_of_getElem? (i := 49) (by decide +kernel)) (by decide +kernel)
theorem wV_X6_enters : Cond.selects RX6 yX6_enters yX6_enters ∈ wg := wg_of (List.mem_of_getElem? (i := 50) (by decide +kernel)) (by decide +kernel)
theorem wV_X6_fresh : Cond.selects RX6 yX6_fresh yX6_fresh ∈ wg := wg_of (List.mem_of_getElem? (i := 51) (by decide +kernel)) (by decide +kernel)
theorem wV_X6_call : Cond.selects RX6 yX6_call yX6_call ∈ wg := wg_of (List.mem_of_getElem? (i := 52) (by decide +kernel)) (by decide +kernel)
theorem wV_X6_callEnds : Cond.selects RX6 yX6_callEnds yX6_callEnds ∈ wg := wg_of (List.mem_of_getElem? (i := 53) (by decide +kernel)) (by decide +kernel)
theorem wV_X6_piece : Cond.selects RX6 yX6_piece yX6_piece ∈ wg := wg_of (List.mem_of_getElem? (i := 54) (by decide +kernel)) (by decide +kernel)
theorem wV_X6_arguments : Cond.selects RX6 yX6_arguments yX6_arguments ∈ wg := wg_of (List.mem_of_getElem? (i := 55) (by decide +kernel)) (by decide +kernel)
theorem wV_X6_behind : Cond.selects RX6 yX6_behind yX6_behind ∈ wg := wg_of (List.mem_of_getElem? (i := 56) (by decide +kernel)) (by decide +kernel)
theorem wV_X6_reduce : Cond.selects RX6 yX6_reduce yX6_reduce ∈ wg := wg_of (List.mem_of_getElem? (i := 57) (by decide +kernel)) (by decide +kernel)
theorem wV_X6_valueEnds : Cond.selects RX6 yX6_valueEnds yX6_valueEnds ∈ wg := wg_of (List.mem_of_getElem? (i := 58) (by decide +kernel)) (by decide +kernel)
theorem wV_X6_argumentEnds : Cond.selects RX6 yX6_argumentEnds yX6_argumentEnds ∈ wg := wg_of (List.mem_of_getElem? (i := 59) (by decide +kernel)) (by decide +kernel)
theorem wV_X6_nothing : Cond.selects RX6 yX6_nothing yX6_nothing ∈ wg := wg_of (List.mem_of_getElem? (i := 60) (by decide +kernel)) (by decide +kernel)
theorem wV_X6_enter : Cond.selects RX6 yX6_enter yX6_enter ∈ wg := wg_of (List.mem_of_getElem? (i := 61) (by decide +kernel)) (by decide +kernel)
theorem wV_X6_does : Cond.selects RX6 yX6_does yX6_does ∈ wg := wg_of (List.mem_of_getElem? (i := 62) (by decide +kernel)) (by decide +kernel)
theorem wV_X6_push : Cond.selects RX6 yX6_push yX6_push ∈ wg := wg_of (List.mem_of_getElem? (i := 63) (by decide +kernel)) (by decide +kernel)
theorem wV_X6_reads : Cond.selects RX6 yX6_reads yX6_reads ∈ wg := wg_of (List.mem_of_getElem? (i := 64) (by decide +kernel)) (by decide +kernel)
theorem wV_X6_place : Cond.selects RX6 yX6_place yX6_place ∈ wg := wg_of (List.mem_of_getElem? (i := 65) (by decide +kernel)) (by decide +kernel)
theorem wV_X6_pop : Cond.selects RX6 yX6_pop yX6_pop ∈ wg := wg_of (List.mem_of_getElem? (i := 66) (by decide +kernel)) (by decide +kernel)
theorem wV_X6_calls : Cond.selects RX6 yX6_calls yX6_calls ∈ wg := wg_of (List.mem_of_getElem? (i := 67) (by decide +kernel)) (by decide +kernel)
theorem wV_X6_returns : Cond.selects RX6 yX6_returns yX6_returns ∈ wg := wg_of (List.mem_of_getElem? (i := 68) (by decide +kernel)) (by decide +kernel)
theorem wV_X6_prints : Cond.selects RX6 yX6_prints yX6_prints ∈ wg := wg_of (List.mem_of_getElem? (i := 69) (by decide +kernel)) (by decide +kernel)
theorem wV_X6_operates : Cond.selects RX6 yX6_operates yX6_operates ∈ wg := wg_of (List.mem_of_getElem? (i := 70) (by decide +kernel)) (by decide +kernel)
theorem wY0_0 : u_lay RX0 TX0 0 ∈ wg := wg_of (List.mem_of_getElem? (i := 160) (by decide +kernel)) (by decide +kernel)
theorem wY0_1 : u_lay RX0 TX0 1 ∈ wg := wg_of (List.mem_of_getElem? (i := 162) (by decide +kernel)) (by decide +kernel)
theorem wY0_2 : u_lay RX0 TX0 2 ∈ wg := wg_of (List.mem_of_getElem? (i := 164) (by decide +kernel)) (by decide +kernel)
theorem wY0_3 : u_lay RX0 TX0 3 ∈ wg := wg_of (List.mem_of_getElem? (i := 166) (by decide +kernel)) (by decide +kernel)
theorem wY0_4 : u_lay RX0 TX0 4 ∈ wg := wg_of (List.mem_of_getElem? (i := 168) (by decide +kernel)) (by decide +kernel)
theorem wY0_5 : u_lay RX0 TX0 5 ∈ wg := wg_of (List.mem_of_getElem? (i := 170) (by decide +kernel)) (by decide +kernel)
theorem inG0 : ∀ w ∈ u_ws RX0 TX0 6, w ∈ wg := by
  intro w h
  obtain ⟨k, hk, rfl⟩ := List.mem_map.mp h
  have hk := List.mem_range.mp hk
  match k, hk with
  | 0, _ => exact wY0_0
  | 1, _ => exact wY0_1
  | 2, _ => exact wY0_2
  | 3, _ => exact wY0_3
  | 4, _ => exact wY0_4
  | 5, _ => exact wY0_5
  | k + 6, h => exact absurd h (by omega)
theorem wY1_0 : u_lay RX1 TX1 0 ∈ wg := wg_of (List.mem_of_getElem? (i := 116) (by decide +kernel)) (by decide +kernel)
theorem wY1_1 : u_lay RX1 TX1 1 ∈ wg := wg_of (List.mem_of_getElem? (i := 118) (by decide +kernel)) (by decide +kernel)
theorem wY1_2 : u_lay RX1 TX1 2 ∈ wg := wg_of (List.mem_of_getElem? (i := 120) (by decide +kernel)) (by decide +kernel)
theorem inG1 : ∀ w ∈ u_ws RX1 TX1 3, w ∈ wg := by
  intro w h
  obtain ⟨k, hk, rfl⟩ := List.mem_map.mp h
  have hk := List.mem_range.mp hk
  match k, hk with
  | 0, _ => exact wY1_0
  | 1, _ => exact wY1_1
  | 2, _ => exact wY1_2
  | k + 3, h => exact absurd h (by omega)
theorem wY2_0 : u_lay RX2 TX2 0 ∈ wg := wg_of (List.mem_of_getElem? (i := 193) (by decide +kernel)) (by decide +kernel)
theorem wY2_1 : u_lay RX2 TX2 1 ∈ wg := wg_of (List.mem_of_getElem? (i := 195) (by decide +kernel)) (by decide +kernel)
theorem wY2_2 : u_lay RX2 TX2 2 ∈ wg := wg_of (List.mem_of_getElem? (i := 197) (by decide +kernel)) (by decide +kernel)
theorem wY2_3 : u_lay RX2 TX2 3 ∈ wg := wg_of (List.mem_of_getElem? (i := 199) (by decide +kernel)) (by decide +kernel)
theorem wY2_4 : u_lay RX2 TX2 4 ∈ wg := wg_of (List.mem_of_getElem? (i := 201) (by decide +kernel)) (by decide +kernel)
theorem wY2_5 : u_lay RX2 TX2 5 ∈ wg := wg_of (List.mem_of_getElem? (i := 203) (by decide +kernel)) (by decide +kernel)
theorem wY2_6 : u_lay RX2 TX2 6 ∈ wg := wg_of (List.mem_of_getElem? (i := 205) (by decide +kernel)) (by decide +kernel)
theorem wY2_7 : u_lay RX2 TX2 7 ∈ wg := wg_of (List.mem_of_getElem? (i := 207) (by decide +kernel)) (by decide +kernel)
theorem wY2_8 : u_lay RX2 TX2 8 ∈ wg := wg_of (List.mem_of_getElem? (i := 209) (by decide +kernel)) (by decide +kernel)
theorem wY2_9 : u_lay RX2 TX2 9 ∈ wg := wg_of (List.mem_of_getElem? (i := 211) (by decide +kernel)) (by decide +kernel)
theorem wY2_10 : u_lay RX2 TX2 10 ∈ wg := wg_of (List.mem_of_getElem? (i := 213) (by decide +kernel)) (by decide +kernel)
theorem wY2_11 : u_lay RX2 TX2 11 ∈ wg := wg_of (List.mem_of_getElem? (i := 215) (by decide +kernel)) (by decide +kernel)
theorem wY2_12 : u_lay RX2 TX2 12 ∈ wg := wg_of (List.mem_of_getElem? (i := 217) (by decide +kernel)) (by decide +kernel)
theorem wY2_13 : u_lay RX2 TX2 13 ∈ wg := wg_of (List.mem_of_getElem? (i := 219) (by decide +kernel)) (by decide +kernel)
theorem inG2 : ∀ w ∈ u_ws RX2 TX2 14, w ∈ wg := by
  intro w h
  obtain ⟨k, hk, rfl⟩ := List.mem_map.mp h
  have hk := List.mem_range.mp hk
  match k, hk with
  | 0, _ => exact wY2_0
  | 1, _ => exact wY2_1
  | 2, _ => exact wY2_2
  | 3, _ => exact wY2_3
  | 4, _ => exact wY2_4
  | 5, _ => exact wY2_5
  | 6, _ => exact wY2_6
  | 7, _ => exact wY2_7
  | 8, _ => exact wY2_8
  | 9, _ => exact wY2_9
  | 10, _ => exact wY2_10
  | 11, _ => exact wY2_11
  | 12, _ => exact wY2_12
  | 13, _ => exact wY2_13
  | k + 14, h => exact absurd h (by omega)
theorem wY3_0 : u_lay RX3 TX3 0 ∈ wg := wg_of (List.mem_of_getElem? (i := 135) (by decide +kernel)) (by decide +kernel)
theorem wY3_1 : u_lay RX3 TX3 1 ∈ wg := wg_of (List.mem_of_getElem? (i := 137) (by decide +kernel)) (by decide +kernel)
theorem wY3_2 : u_lay RX3 TX3 2 ∈ wg := wg_of (List.mem_of_getElem? (i := 139) (by decide +kernel)) (by decide +kernel)
theorem wY3_3 : u_lay RX3 TX3 3 ∈ wg := wg_of (List.mem_of_getElem? (i := 141) (by decide +kernel)) (by decide +kernel)
theorem wY3_4 : u_lay RX3 TX3 4 ∈ wg := wg_of (List.mem_of_getElem? (i := 143) (by decide +kernel)) (by decide +kernel)
theorem wY3_5 : u_lay RX3 TX3 5 ∈ wg := wg_of (List.mem_of_getElem? (i := 145) (by decide +kernel)) (by decide +kernel)
theorem inG3 : ∀ w ∈ u_ws RX3 TX3 6, w ∈ wg := by
  intro w h
  obtain ⟨k, hk, rfl⟩ := List.mem_map.mp h
  have hk := List.mem_range.mp hk
  match k, hk with
  | 0, _ => exact wY3_0
  | 1, _ => exact wY3_1
  | 2, _ => exact wY3_2
  | 3, _ => exact wY3_3
  | 4, _ => exact wY3_4
  | 5, _ => exact wY3_5
  | k + 6, h => exact absurd h (by omega)
theorem wY4_0 : u_lay RX4 TX4 0 ∈ wg := wg_of (List.mem_of_getElem? (i := 101) (by decide +kernel)) (by decide +kernel)
theorem wY4_1 : u_lay RX4 TX4 1 ∈ wg := wg_of (List.mem_of_getElem? (i := 103) (by decide +kernel)) (by decide +kernel)
theorem inG4 : ∀ w ∈ u_ws RX4 TX4 2, w ∈ wg := by
  intro w h
  obtain ⟨k, hk, rfl⟩ := List.mem_map.mp h
  have hk := List.mem_range.mp hk
  match k, hk with
  | 0, _ => exact wY4_0
  | 1, _ => exact wY4_1
  | k + 2, h => exact absurd h (by omega)
theorem wY5_0 : u_lay RX5 TX5 0 ∈ wg := wg_of (List.mem_of_getElem? (i := 228) (by decide +kernel)) (by decide +kernel)
theorem wY5_1 : u_lay RX5 TX5 1 ∈ wg := wg_of (List.mem_of_getElem? (i := 230) (by decide +kernel)) (by decide +kernel)
theorem wY5_2 : u_lay RX5 TX5 2 ∈ wg := wg_of (List.mem_of_getElem? (i := 232) (by decide +kernel)) (by decide +kernel)
theorem wY5_3 : u_lay RX5 TX5 3 ∈ wg := wg_of (List.mem_of_getElem? (i := 234) (by decide +kernel)) (by decide +kernel)
theorem wY5_4 : u_lay RX5 TX5 4 ∈ wg := wg_of (List.mem_of_getElem? (i := 236) (by decide +kernel)) (by decide +kernel)
theorem wY5_5 : u_lay RX5 TX5 5 ∈ wg := wg_of (List.mem_of_getElem? (i := 238) (by decide +kernel)) (by decide +kernel)
theorem inG5 : ∀ w ∈ u_ws RX5 TX5 6, w ∈ wg := by
  intro w h
  obtain ⟨k, hk, rfl⟩ := List.mem_map.mp h
  have hk := List.mem_range.mp hk
  match k, hk with
  | 0, _ => exact wY5_0
  | 1, _ => exact wY5_1
  | 2, _ => exact wY5_2
  | 3, _ => exact wY5_3
  | 4, _ => exact wY5_4
  | 5, _ => exact wY5_5
  | k + 6, h => exact absurd h (by omega)
theorem wY6_0 : u_lay RX6 TX6 0 ∈ wg := wg_of (List.mem_of_getElem? (i := 756) (by decide +kernel)) (by decide +kernel)
theorem wY6_1 : u_lay RX6 TX6 1 ∈ wg := wg_of (List.mem_of_getElem? (i := 758) (by decide +kernel)) (by decide +kernel)
theorem wY6_2 : u_lay RX6 TX6 2 ∈ wg := wg_of (List.mem_of_getElem? (i := 760) (by decide +kernel)) (by decide +kernel)
theorem wY6_3 : u_lay RX6 TX6 3 ∈ wg := wg_of (List.mem_of_getElem? (i := 762) (by decide +kernel)) (by decide +kernel)
theorem wY6_4 : u_lay RX6 TX6 4 ∈ wg := wg_of (List.mem_of_getElem? (i := 764) (by decide +kernel)) (by decide +kernel)
theorem wY6_5 : u_lay RX6 TX6 5 ∈ wg := wg_of (List.mem_of_getElem? (i := 766) (by decide +kernel)) (by decide +kernel)
theorem wY6_6 : u_lay RX6 TX6 6 ∈ wg := wg_of (List.mem_of_getElem? (i := 768) (by decide +kernel)) (by decide +kernel)
theorem wY6_7 : u_lay RX6 TX6 7 ∈ wg := wg_of (List.mem_of_getElem? (i := 770) (by decide +kernel)) (by decide +kernel)
theorem wY6_8 : u_lay RX6 TX6 8 ∈ wg := wg_of (List.mem_of_getElem? (i := 772) (by decide +kernel)) (by decide +kernel)
theorem wY6_9 : u_lay RX6 TX6 9 ∈ wg := wg_of (List.mem_of_getElem? (i := 774) (by decide +kernel)) (by decide +kernel)
theorem wY6_10 : u_lay RX6 TX6 10 ∈ wg := wg_of (List.mem_of_getElem? (i := 776) (by decide +kernel)) (by decide +kernel)
theorem wY6_11 : u_lay RX6 TX6 11 ∈ wg := wg_of (List.mem_of_getElem? (i := 778) (by decide +kernel)) (by decide +kernel)
theorem wY6_12 : u_lay RX6 TX6 12 ∈ wg := wg_of (List.mem_of_getElem? (i := 780) (by decide +kernel)) (by decide +kernel)
theorem wY6_13 : u_lay RX6 TX6 13 ∈ wg := wg_of (List.mem_of_getElem? (i := 782) (by decide +kernel)) (by decide +kernel)
theorem wY6_14 : u_lay RX6 TX6 14 ∈ wg := wg_of (List.mem_of_getElem? (i := 784) (by decide +kernel)) (by decide +kernel)
theorem wY6_15 : u_lay RX6 TX6 15 ∈ wg := wg_of (List.mem_of_getElem? (i := 786) (by decide +kernel)) (by decide +kernel)
theorem wY6_16 : u_lay RX6 TX6 16 ∈ wg := wg_of (List.mem_of_getElem? (i := 788) (by decide +kernel)) (by decide +kernel)
theorem wY6_17 : u_lay RX6 TX6 17 ∈ wg := wg_of (List.mem_of_getElem? (i := 790) (by decide +kernel)) (by decide +kernel)
theorem wY6_18 : u_lay RX6 TX6 18 ∈ wg := wg_of (List.mem_of_getElem? (i := 792) (by decide +kernel)) (by decide +kernel)
theorem wY6_19 : u_lay RX6 TX6 19 ∈ wg := wg_of (List.mem_of_getElem? (i := 794) (by decide +kernel)) (by decide +kernel)
theorem wY6_20 : u_lay RX6 TX6 20 ∈ wg := wg_of (List.mem_of_getElem? (i := 796) (by decide +kernel)) (by decide +kernel)
theorem wY6_21 : u_lay RX6 TX6 21 ∈ wg := wg_of (List.mem_of_getElem? (i := 798) (by decide +kernel)) (by decide +kernel)
theorem wY6_22 : u_lay RX6 TX6 22 ∈ wg := wg_of (List.mem_of_getElem? (i := 800) (by decide +kernel)) (by decide +kernel)
theorem wY6_23 : u_lay RX6 TX6 23 ∈ wg := wg_of (List.mem_of_getElem? (i := 802) (by decide +kernel)) (by decide +kernel)
theorem wY6_24 : u_lay RX6 TX6 24 ∈ wg := wg_of (List.mem_of_getElem? (i := 804) (by decide +kernel)) (by decide +kernel)
theorem wY6_25 : u_lay RX6 TX6 25 ∈ wg := wg_of (List.mem_of_getElem? (i := 806) (by decide +kernel)) (by decide +kernel)
theorem wY6_26 : u_lay RX6 TX6 26 ∈ wg := wg_of (List.mem_of_getElem? (i := 808) (by decide +kernel)) (by decide +kernel)
theorem wY6_27 : u_lay RX6 TX6 27 ∈ wg := wg_of (List.mem_of_getElem? (i := 810) (by decide +kernel)) (by decide +kernel)
theorem wY6_28 : u_lay RX6 TX6 28 ∈ wg := wg_of (List.mem_of_getElem? (i := 812) (by decide +kernel)) (by decide +kernel)
theorem wY6_29 : u_lay RX6 TX6 29 ∈ wg := wg_of (List.mem_of_getElem? (i := 814) (by decide +kernel)) (by decide +kernel)
theorem wY6_30 : u_lay RX6 TX6 30 ∈ wg := wg_of (List.mem_of_getElem? (i := 816) (by decide +kernel)) (by decide +kernel)
theorem wY6_31 : u_lay RX6 TX6 31 ∈ wg := wg_of (List.mem_of_getElem? (i := 818) (by decide +kernel)) (by decide +kernel)
theorem wY6_32 : u_lay RX6 TX6 32 ∈ wg := wg_of (List.mem_of_getElem? (i := 820) (by decide +kernel)) (by decide +kernel)
theorem wY6_33 : u_lay RX6 TX6 33 ∈ wg := wg_of (List.mem_of_getElem? (i := 822) (by decide +kernel)) (by decide +kernel)
theorem wY6_34 : u_lay RX6 TX6 34 ∈ wg := wg_of (List.mem_of_getElem? (i := 824) (by decide +kernel)) (by decide +kernel)
theorem wY6_35 : u_lay RX6 TX6 35 ∈ wg := wg_of (List.mem_of_getElem? (i := 826) (by decide +kernel)) (by decide +kernel)
theorem wY6_36 : u_lay RX6 TX6 36 ∈ wg := wg_of (List.mem_of_getElem? (i := 828) (by decide +kernel)) (by decide +kernel)
theorem wY6_37 : u_lay RX6 TX6 37 ∈ wg := wg_of (List.mem_of_getElem? (i := 830) (by decide +kernel)) (by decide +kernel)
theorem wY6_38 : u_lay RX6 TX6 38 ∈ wg := wg_of (List.mem_of_getElem? (i := 832) (by decide +kernel)) (by decide +kernel)
theorem wY6_39 : u_lay RX6 TX6 39 ∈ wg := wg_of (List.mem_of_getElem? (i := 834) (by decide +kernel)) (by decide +kernel)
theorem wY6_40 : u_lay RX6 TX6 40 ∈ wg := wg_of (List.mem_of_getElem? (i := 836) (by decide +kernel)) (by decide +kernel)
theorem wY6_41 : u_lay RX6 TX6 41 ∈ wg := wg_of (List.mem_of_getElem? (i := 838) (by decide +kernel)) (by decide +kernel)
theorem wY6_42 : u_lay RX6 TX6 42 ∈ wg := wg_of (List.mem_of_getElem? (i := 840) (by decide +kernel)) (by decide +kernel)
theorem wY6_43 : u_lay RX6 TX6 43 ∈ wg := wg_of (List.mem_of_getElem? (i := 842) (by decide +kernel)) (by decide +kernel)
theorem wY6_44 : u_lay RX6 TX6 44 ∈ wg := wg_of (List.mem_of_getElem? (i := 844) (by decide +kernel)) (by decide +kernel)
theorem wY6_45 : u_lay RX6 TX6 45 ∈ wg := wg_of (List.mem_of_getElem? (i := 846) (by decide +kernel)) (by decide +kernel)
theorem wY6_46 : u_lay RX6 TX6 46 ∈ wg := wg_of (List.mem_of_getElem? (i := 848) (by decide +kernel)) (by decide +kernel)
theorem wY6_47 : u_lay RX6 TX6 47 ∈ wg := wg_of (List.mem_of_getElem? (i := 850) (by decide +kernel)) (by decide +kernel)
theorem wY6_48 : u_lay RX6 TX6 48 ∈ wg := wg_of (List.mem_of_getElem? (i := 852) (by decide +kernel)) (by decide +kernel)
theorem wY6_49 : u_lay RX6 TX6 49 ∈ wg := wg_of (List.mem_of_getElem? (i := 854) (by decide +kernel)) (by decide +kernel)
theorem wY6_50 : u_lay RX6 TX6 50 ∈ wg := wg_of (List.mem_of_getElem? (i := 856) (by decide +kernel)) (by decide +kernel)
theorem wY6_51 : u_lay RX6 TX6 51 ∈ wg := wg_of (List.mem_of_getElem? (i := 858) (by decide +kernel)) (by decide +kernel)
theorem inG6 : ∀ w ∈ u_ws RX6 TX6 52, w ∈ wg := by
  intro w h
  obtain ⟨k, hk, rfl⟩ := List.mem_map.mp h
  have hk := List.mem_range.mp hk
  match k, hk with
  | 0, _ => exact wY6_0
  | 1, _ => exact wY6_1
  | 2, _ => exact wY6_2
  | 3, _ => exact wY6_3
  | 4, _ => exact wY6_4
  | 5, _ => exact wY6_5
  | 6, _ => exact wY6_6
  | 7, _ => exact wY6_7
  | 8, _ => exact wY6_8
  | 9, _ => exact wY6_9
  | 10, _ => exact wY6_10
  | 11, _ => exact wY6_11
  | 12, _ => exact wY6_12
  | 13, _ => exact wY6_13
  | 14, _ => exact wY6_14
  | 15, _ => exact wY6_15
  | 16, _ => exact wY6_16
  | 17, _ => exact wY6_17
  | 18, _ => exact wY6_18
  | 19, _ => exact wY6_19
  | 20, _ => exact wY6_20
  | 21, _ => exact wY6_21
  | 22, _ => exact wY6_22
  | 23, _ => exact wY6_23
  | 24, _ => exact wY6_24
  | 25, _ => exact wY6_25
  | 26, _ => exact wY6_26
  | 27, _ => exact wY6_27
  | 28, _ => exact wY6_28
  | 29, _ => exact wY6_29
  | 30, _ => exact wY6_30
  | 31, _ => exact wY6_31
  | 32, _ => exact wY6_32
  | 33, _ => exact wY6_33
  | 34, _ => exact wY6_34
  | 35, _ => exact wY6_35
  | 36, _ => exact wY6_36
  | 37, _ => exact wY6_37
  | 38, _ => exact wY6_38
  | 39, _ => exact wY6_39
  | 40, _ => exact wY6_40
  | 41, _ => exact wY6_41
  | 42, _ => exact wY6_42
  | 43, _ => exact wY6_43
  | 44, _ => exact wY6_44
  | 45, _ => exact wY6_45
  | 46, _ => exact wY6_46
  | 47, _ => exact wY6_47
  | 48, _ => exact wY6_48
  | 49, _ => exact wY6_49
  | 50, _ => exact wY6_50
  | 51, _ => exact wY6_51
  | k + 52, h => exact absurd h (by omega)
end
section
/-! THE BASE: pictures of states, contracts over pictures, a row an instruction over pictures; pure programs in Option -/
abbrev St : Type := Nat → Nat → Int32
/-- place j of number k becomes v -/
def st (μ : St) (k j : Nat) (v : Int32) : St := fun a => if a = k then upd (μ k) j v else μ a
/-- a field: (true, k): the int of number k; (false, k): a reference to the cell k -/
abbrev q_Fd : Type := Bool × Nat
/-- a cell: an object (its class, its fields), or an int array (its length, its number) -/
abbrev q_Cd : Type := (Nat × List q_Fd) ⊕ (Nat × Nat)
def fv (ρ : Nat → Nat) (μ : St) (f : q_Fd) : Value := if f.1 = true then .int (μ f.2 0) else .ref (ρ f.2)
def cv (cI : ClassId) (ρ : Nat → Nat) (μ : St) (d : q_Cd) : va_E := match d with
  | .inl o => .inr (o.1, o.2.map (fv ρ μ))
  | .inr a => .inl (cI, a.1, .inl (μ a.2))
def pic (T : List q_Cd) (cI : ClassId) (ρ : Nat → Nat) (μ : St) : va_W := T.mapIdx (fun i d => (ρ i, cv cI ρ μ d))
theorem pic_get {T : List q_Cd} {cI : ClassId} {ρ : Nat → Nat} {μ : St} {i : Nat} {d : q_Cd} (h : T[i]? = some d) : (pic T cI ρ μ)[i]? = some (ρ i, cv cI ρ μ d) := by
  simp [pic, List.getElem?_mapIdx, h]
theorem pic_inv {T : List q_Cd} {cI : ClassId} {ρ : Nat → Nat} {μ : St} {i : Nat} {q : Nat × va_E} (h : (pic T cI ρ μ)[i]? = some q) : ∃ d, T[i]? = some d ∧ q = (ρ i, cv cI ρ μ d) := by
  simp only [pic, List.getElem?_mapIdx, Option.map_eq_some_iff] at h
  obtain ⟨d, h1, h2⟩ := h
  exact ⟨d, h1, h2.symm⟩
/-- where the number k is used: nowhere but in the cell o, there as its field j -/
def onlyF (T : List q_Cd) (o j k : Nat) : Bool := (List.range T.length).all fun i => match T[i]? with
  | some (.inl (_, fs)) => (List.range fs.length).all fun a => match fs[a]? with
    | some (true, n) => if i = o ∧ a = j then true else !(n == k)
    | _ => true
  | some (.inr (_, n)) => !(n == k)
  | none => true
/-- .. but in the cell o, an array -/
def onlyA (T : List q_Cd) (o k : Nat) : Bool := (List.range T.length).all fun i => match T[i]? with
  | some (.inl (_, fs)) => fs.all fun f => match f with
    | (true, n) => !(n == k)
    | _ => true
  | some (.inr (_, n)) => if i = o then true else !(n == k)
  | none => true
theorem st_at (μ : St) (k j : Nat) (v : Int32) : st μ k j v k j = v := by simp [st, upd]
theorem st_ne {μ : St} {k j a b : Nat} {v : Int32} (h : a ≠ k) : st μ k j v a b = μ a b := by simp [st, h]
theorem st_ne' {μ : St} {k j a : Nat} {v : Int32} (h : a ≠ k) : st μ k j v a = μ a := by simp [st, h]
theorem st_nj {μ : St} {k j b : Nat} {v : Int32} (h : b ≠ j) : st μ k j v k b = μ k b := by simp [st, upd, h]
theorem st_row (μ : St) (k j : Nat) (v : Int32) : st μ k j v k = upd (μ k) j v := by simp [st]
theorem pic_putF {T : List q_Cd} {cI : ClassId} {ρ : Nat → Nat} {μ : St} {o j k ci : Nat} {fs : List q_Fd} {v : Int32} (hT : T[o]? = some (.inl (ci, fs))) (hf : fs[j]? = some (true, k)) (hu : onlyF T o j k = true) :
    (pic T cI ρ μ).set o (ρ o, .inr (ci, (fs.map (fv ρ μ)).set j (.int v))) = pic T cI ρ (st μ k 0 v) := by
  simp only [onlyF, List.all_eq_true, List.mem_range] at hu
  have ho : o < T.length := (List.getElem?_eq_some_iff.mp hT).1
  apply List.ext_getElem?
  intro i
  by_cases hi : i = o
  · subst hi
    rw [List.getElem?_set_self (by simpa [pic] using ho), pic_get hT]
    have h1 := hu i ho
    rw [hT] at h1
    simp only [List.all_eq_true, List.mem_range] at h1
    congr 1
    show (ρ i, (Sum.inr (ci, (fs.map (fv ρ μ)).set j (.int v)) : va_E)) = (ρ i, .inr (ci, fs.map (fv ρ (st μ k 0 v))))
    congr 3
    apply List.ext_getElem?
    intro a
    by_cases ha : a = j
    · subst ha
      have hl : a < fs.length := (List.getElem?_eq_some_iff.mp hf).1
      rw [List.getElem?_set_self (by simpa using hl), List.getElem?_map, hf]
      simp [fv, st_at]
    · rw [List.getElem?_set_ne (Ne.symm ha), List.getElem?_map, List.getElem?_map]
      cases hfa : fs[a]? with
      | none => rfl
      | some f =>
        have hl : a < fs.length := (List.getElem?_eq_some_iff.mp hfa).1
        have h2 := h1 a hl
        rw [hfa] at h2
        obtain ⟨b, n⟩ := f
        cases b with
        | false => rfl
        | true =>
          simp only [ha, and_false, if_false, Bool.not_eq_true', beq_eq_false_iff_ne] at h2
          simp [fv, st_ne h2]
  · rw [List.getElem?_set_ne (Ne.symm hi)]
    cases hTi : T[i]? with
    | none => simp [pic, List.getElem?_mapIdx, hTi]
    | some d =>
      rw [pic_get hTi, pic_get hTi]
      have hl : i < T.length := (List.getElem?_eq_some_iff.mp hTi).1
      have h1 := hu i hl
      rw [hTi] at h1
      congr 2
      cases d with
      | inr a =>
        obtain ⟨n, k'⟩ := a
        simp only [Bool.not_eq_true', beq_eq_false_iff_ne] at h1
        simp [cv, st_ne' h1]
      | inl x =>
        obtain ⟨c', gs⟩ := x
        simp only [List.all_eq_true, List.mem_range] at h1
        simp only [cv]
        congr 2
        apply List.ext_getElem?
        intro a
        rw [List.getElem?_map, List.getElem?_map]
        cases hfa : gs[a]? with
        | none => rfl
        | some f =>
          have hl2 : a < gs.length := (List.getElem?_eq_some_iff.mp hfa).1
          have h2 := h1 a hl2
          rw [hfa] at h2
          obtain ⟨b, n⟩ := f
          cases b with
          | false => rfl
          | true =>
            simp only [hi, false_and, if_false, Bool.not_eq_true', beq_eq_false_iff_ne] at h2
            simp [fv, st_ne h2]
theorem pic_putA {T : List q_Cd} {cI : ClassId} {ρ : Nat → Nat} {μ : St} {o n k j : Nat} {v : Int32} (hT : T[o]? = some (.inr (n, k))) (hu : onlyA T o k = true) :
    (pic T cI ρ μ).set o (ρ o, .inl (cI, n, .inl (upd (μ k) j v))) = pic T cI ρ (st μ k j v) := by
  simp only [onlyA, List.all_eq_true, List.mem_range] at hu
  have ho : o < T.length := (List.getElem?_eq_some_iff.mp hT).1
  apply List.ext_getElem?
  intro i
  by_cases hi : i = o
  · subst hi
    rw [List.getElem?_set_self (by simpa [pic] using ho), pic_get hT]
    simp [cv, st_row]
  · rw [List.getElem?_set_ne (Ne.symm hi)]
    cases hTi : T[i]? with
    | none => simp [pic, List.getElem?_mapIdx, hTi]
    | some d =>
      rw [pic_get hTi, pic_get hTi]
      have hl : i < T.length := (List.getElem?_eq_some_iff.mp hTi).1
      have h1 := hu i hl
      rw [hTi] at h1
      congr 2
      cases d with
      | inr a =>
        obtain ⟨n', k'⟩ := a
        simp only [hi, if_false, Bool.not_eq_true', beq_eq_false_iff_ne] at h1
        simp [cv, st_ne' h1]
      | inl x =>
        obtain ⟨c', gs⟩ := x
        simp only [List.all_eq_true] at h1
        simp only [cv]
        congr 2
        apply List.map_congr_left
        intro f hf
        have h2 := h1 f hf
        obtain ⟨b, n'⟩ := f
        cases b with
        | false => rfl
        | true =>
          simp only [Bool.not_eq_true', beq_eq_false_iff_ne] at h2
          simp [fv, st_ne h2]
theorem pic_D {T : List q_Cd} {cI : ClassId} {ρ : Nat → Nat} {μ ν : St} {A : Nat → Prop} (h : va_D A (pic T cI ρ μ)) : va_D A (pic T cI ρ ν) := by
  constructor
  · intro i j p q hi hj e
    obtain ⟨d1, h1, rfl⟩ := pic_inv hi
    obtain ⟨d2, h2, rfl⟩ := pic_inv hj
    exact h.1 i j _ _ (pic_get h1) (pic_get h2) e
  · intro k q hq
    obtain ⟨d1, h1, rfl⟩ := pic_inv hq
    exact h.2 k (ρ k, cv cI ρ μ d1) (pic_get h1)
theorem pic_A {T : List q_Cd} {cI : ClassId} {ρ : Nat → Nat} {μ ν : St} {sz q : Nat} (h : va_A (pic T cI ρ μ) sz q) : va_A (pic T cI ρ ν) sz q := by
  rcases h with ⟨k, e, h⟩ | h
  · obtain ⟨d1, h1, h2⟩ := pic_inv h
    cases h2
    exact Or.inl ⟨k, _, pic_get h1⟩
  · exact Or.inr h
/-! pure programs -/
def nm {α β : Type} (e : α) (k : α → Option β) : Option β := k e
theorem nm_some {α β : Type} {e : α} {k : α → Option β} {r : β} (h : nm e k = some r) : ∃ x, x = e ∧ k x = some r := ⟨e, rfl, h⟩
def gd {β : Type} (b : Bool) (k : Option β) : Option β := if b = true then k else none
theorem gd_some {β : Type} {b : Bool} {k : Option β} {r : β} (h : gd b k = some r) : b = true ∧ k = some r := by
  unfold gd at h
  split at h
  · exact ⟨by assumption, h⟩
  · cases h
def ca {α β : Type} (o : Option α) (k : α → Option β) : Option β := match o with
  | some x => k x
  | none => none
theorem ca_some {α β : Type} {o : Option α} {k : α → Option β} {r : β} (h : ca o k = some r) : ∃ x, o = some x ∧ k x = some r := by
  cases o with
  | none => cases h
  | some x => exact ⟨x, rfl, h⟩
def jn {κ β : Type} (f : κ) (body : κ → Option β) : Option β := body f
theorem jn_some {κ β : Type} {f : κ} {body : κ → Option β} {r : β} (h : jn f body = some r) : ∃ k, k = f ∧ body k = some r := ⟨f, rfl, h⟩
def lpk {κ : Type} (F : κ → κ) (z : κ) : Nat → κ
  | 0 => z
  | n + 1 => F (lpk F z n)
theorem lp_elim {κ : Type} {F : κ → κ} {z : κ} (P : κ → Prop) (h0 : P z) (hs : ∀ k, P k → P (F k)) (n : Nat) : P (lpk F z n) := by
  induction n with
  | zero => exact h0
  | succ n ih => exact hs _ ih
def inb (i : Int32) (n : Nat) : Bool := decide (0 ≤ i.toInt) && decide (i.toInt < n)
theorem inb_in {i : Int32} {n : Nat} (h : inb i n = true) : vp_in i n := by
  simp only [inb, Bool.and_eq_true, decide_eq_true_eq] at h
  exact vp_in_iff.mpr h
theorem it_pos {c : Prop} [Decidable c] {β : Type} {a b : Option β} {r : β} (hc : c) (h : (if c then a else b) = some r) : a = some r := by
  rw [if_pos hc] at h; exact h
theorem it_neg {c : Prop} [Decidable c] {β : Type} {a b : Option β} {r : β} (hc : ¬ c) (h : (if c then a else b) = some r) : b = some r := by
  rw [if_neg hc] at h; exact h
def nz (x : Int32) : Bool := !(x == 0)
theorem nz_ne {x : Int32} (h : nz x = true) : ¬ x = 0 := by simpa [nz] using h
theorem ne_toInt {x v : Int32} {z : Int} (hv : v.toInt = z) (h : ¬ x = v) : x.toInt ≠ z := fun e => h (Int32.toInt_inj.mp (e.trans hv.symm))
/-! the machine over pictures -/
abbrev wm (y : MethodName) (cc : ByteArray) (n : Nat) (ret : Option FieldType) : List Cond := Cond.code y cc n ret :: wg
abbrev rmL (h : Nat) : Room := { frames := h, cells := 0, slots := 0, locals := 40 * h }
def Cx (p : Program) (s : State) (m : MethodId) (args : Array Value) (c : Code) (cc : ByteArray) (nL : Nat) (own : String) (D : va_G) (cI : ClassId) : Prop :=
  CallFix p m c cc nL s args wg own ∧ va_K D vwCl [(cI, .int)] s
def RI (T : List q_Cd) (cI : ClassId) (D : va_G) (A : Nat → Prop) (H0 : Heap) (ρ : Nat → Nat) (μ : St) (H : Heap) (locs : List Loc) : Prop :=
  va_P D vwCl (pic T cI ρ μ) H ∧ va_D A (pic T cI ρ μ) ∧ va_S A H0 H locs ∧ ∀ q, H0.size ≤ q → A q
def pw (T : List q_Cd) (cI : ClassId) (D : va_G) (ρ : Nat → Nat) (μ : St) (U : State) : Prop :=
  va_P D vwCl (pic T cI ρ μ) U.heap ∧ va_K D vwCl [(cI, .int)] U ∧ va_D (fun _ => True) (pic T cI ρ μ)
def PcT (T : List q_Cd) (cI : ClassId) (D : va_G) (ρ : Nat → Nat) (μ : St) (as : List Value) (sz : Nat) : Array Value → State → Prop :=
  va_Pc as (fun U => U.heap.size = sz ∧ pw T cI D ρ μ U)
def QiT (T : List q_Cd) (cI : ClassId) (D : va_G) (ρ : Nat → Nat) (μ : St) (sz : Nat) (r : Int32) (ν : St) : Array Value → State → Outcome → State → Prop :=
  va_Qi (fun (r' : Int32) (u : St) => r' = r ∧ u = ν) (fun u t => pw T cI D ρ u t) (va_A (pic T cI ρ μ) sz)
def QvT (T : List q_Cd) (cI : ClassId) (D : va_G) (ρ : Nat → Nat) (μ : St) (sz : Nat) (ν : St) : Array Value → State → Outcome → State → Prop :=
  va_Qv (fun (u : St) => u = ν) (fun u t => pw T cI D ρ u t) (va_A (pic T cI ρ μ) sz)
/-- THE CONTRACT of a method that answers an int: from the picture of μ it answers r, with the picture of ν -/
def CI (l : Launch) (y : MethodName) (cc : ByteArray) (n : Nat) (ret : Option FieldType) (h : Nat) (T : List q_Cd) (cI : ClassId) (D : va_G) (ρ : Nat → Nat) (as : List Value) (μ : St) (r : Int32) (ν : St) : Prop :=
  ∀ sz, Met l y (wm y cc n ret) (rmL h) (PcT T cI D ρ μ as sz) (QiT T cI D ρ μ sz r ν) 0 0 (va_A (pic T cI ρ μ) sz)
/-- .. of one that answers nothing -/
def CV (l : Launch) (y : MethodName) (cc : ByteArray) (n : Nat) (h : Nat) (T : List q_Cd) (cI : ClassId) (D : va_G) (ρ : Nat → Nat) (as : List Value) (μ : St) (ν : St) : Prop :=
  ∀ sz, Met l y (wm y cc n none) (rmL h) (PcT T cI D ρ μ as sz) (QvT T cI D ρ μ sz ν) 0 0 (va_A (pic T cI ρ μ) sz)
theorem PcT_blind {T : List q_Cd} {cI : ClassId} {D : va_G} {ρ : Nat → Nat} {μ : St} {as : List Value} {sz : Nat} : FrameBlind (PcT T cI D ρ μ as sz) := by
  intro a U g mk q
  obtain ⟨q0, q1, qP, qK, qD⟩ := q
  exact ⟨q0, q1, qP, va_K.moved (u := U) (U := U.calling g mk a) (Vm.Alike.refl U.vm) qK, qD⟩
theorem wm_good {y : MethodName} {cc : ByteArray} {n : Nat} {ret : Option FieldType} (h : Cond.code y cc n ret ∈ wg) {w : Cond} (hw : w ∈ wm y cc n ret) : w ∈ wg := by
  rcases List.mem_cons.mp hw with rfl | h2
  · exact h
  · exact h2
theorem wg_good {w : Cond} (h : w ∈ wg) : (w.onTables && w.keeps) = true ∨ ∃ ty, w = .arrayClass ty := good_of_word (List.mem_filter.mp h).2
theorem gi_V {own C : String} {idx n : Nat} {y : MethodName} {cc : ByteArray} {ret : Option FieldType} (h1 : Cond.methodLink own idx y ∈ wg) (h2 : Cond.instanceMethod y ∈ wg) (h3 : Cond.selects C y y ∈ wg) (h4 : Cond.initialized C ∈ wg) (h5 : Cond.code y cc n ret ∈ wg) :
    GoodIn wg (wsV own idx C y (wm y cc n ret)) := by
  intro w hw
  have : w ∈ wg := by
    rcases List.mem_append.mp hw with h | h
    · simp only [List.mem_cons, List.not_mem_nil, or_false] at h
      rcases h with rfl | rfl | rfl | rfl <;> assumption
    · exact wm_good h5 h
  exact ⟨this, wg_good this⟩
theorem gi_S {own : String} {idx n : Nat} {y : MethodName} {cc : ByteArray} {ret : Option FieldType} (h1 : Cond.methodLink own idx y ∈ wg) (h2 : Cond.static y ∈ wg) (h4 : Cond.initialized own ∈ wg) (h5 : Cond.code y cc n ret ∈ wg) :
    GoodIn wg (wsS own idx y (wm y cc n ret)) := by
  intro w hw
  have : w ∈ wg := by
    rcases List.mem_append.mp hw with h | h
    · simp only [List.mem_cons, List.not_mem_nil, or_false] at h
      rcases h with rfl | rfl | rfl <;> assumption
    · exact wm_good h5 h
  exact ⟨this, wg_good this⟩
end
section
/-! a row an instruction, over pictures -/
section RB
variable {p : Program} {l : Launch} {e : Env} {R : Room} {s : State} {m : MethodId} {args : Array Value} {below : List Frame} {meth : Method} {c : Code} {H : Heap} {locs : List Loc} {cells slots : Nat} {Q : State → Prop} {cc : ByteArray} {nL : Nat} {own : String} {D : va_G} {cI : ClassId} {T : List q_Cd} {A : Nat → Prop} {H0 : Heap} {ρ : Nat → Nat} {μ : St} {pc : Nat} {ls : Array Slot} {rest : List Value}
theorem rg_top {x y : Int32} (h : x = y) (k : W p l e R s m args below meth c H locs cells slots Q (F0 m pc ls (.int x :: rest))) : W p l e R s m args below meth c H locs cells slots Q (F0 m pc ls (.int y :: rest)) := h ▸ k
theorem rg_get (X : Cx p s m args c cc nL own D cI) (hI : RI T cI D A H0 ρ μ H locs) {o j k ci N index : Nat} {fs : List q_Fd} {C : String} {TT : u_T} (hT : T[o]? = some (.inl (ci, fs))) (hf : fs[j]? = some (true, k)) (hc : vwCl[ci]? = some (C, TT, N)) (hin : ∀ w ∈ u_ws C TT N, w ∈ wg) (hj : j < N) (h1 : (TT j).1 = C) (hlink : Cond.fieldLink own index C (TT j).2.1 (TT j).2.2.1 ∈ wg) (hdg : decode cc pc = .ok (.getfield index, 3))
    (kk : W p l e R s m args below meth c H locs cells slots Q (F0 m (pc + 3) ls (.int (μ k 0) :: rest))) : W p l e R s m args below meth c H locs cells slots Q (F0 m pc ls (.ref (ρ o) :: rest)) :=
  va_get (D := D) (ci := ci) (v := .int (μ k 0)) X.1.1 X.1.2.1 X.1.2.2.2.2 hin X.1.2.2.2.1 X.2 hI.1 o (show (pic T cI ρ μ)[o]? = some (ρ o, .inr (ci, fs.map (fv ρ μ))) from pic_get hT) hc j hj (X.1.2.2.2.2 _ hlink) (fun x h => by rw [h1] at h; exact h) (by simp [hf, fv]) hdg kk
theorem rg_getR (X : Cx p s m args c cc nL own D cI) (hI : RI T cI D A H0 ρ μ H locs) {o j k ci N index : Nat} {fs : List q_Fd} {C : String} {TT : u_T} (hT : T[o]? = some (.inl (ci, fs))) (hf : fs[j]? = some (false, k)) (hc : vwCl[ci]? = some (C, TT, N)) (hin : ∀ w ∈ u_ws C TT N, w ∈ wg) (hj : j < N) (h1 : (TT j).1 = C) (hlink : Cond.fieldLink own index C (TT j).2.1 (TT j).2.2.1 ∈ wg) (hdg : decode cc pc = .ok (.getfield index, 3))
    (kk : W p l e R s m args below meth c H locs cells slots Q (F0 m (pc + 3) ls (.ref (ρ k) :: rest))) : W p l e R s m args below meth c H locs cells slots Q (F0 m pc ls (.ref (ρ o) :: rest)) :=
  va_get (D := D) (ci := ci) (v := .ref (ρ k)) X.1.1 X.1.2.1 X.1.2.2.2.2 hin X.1.2.2.2.1 X.2 hI.1 o (show (pic T cI ρ μ)[o]? = some (ρ o, .inr (ci, fs.map (fv ρ μ))) from pic_get hT) hc j hj (X.1.2.2.2.2 _ hlink) (fun x h => by rw [h1] at h; exact h) (by simp [hf, fv]) hdg kk
theorem rg_put (X : Cx p s m args c cc nL own D cI) (hI : RI T cI D A H0 ρ μ H locs) {o j k ci N index : Nat} {fs : List q_Fd} {C : String} {TT : u_T} (hT : T[o]? = some (.inl (ci, fs))) (hf : fs[j]? = some (true, k)) (hu : onlyF T o j k = true) (hc : vwCl[ci]? = some (C, TT, N)) (hin : ∀ w ∈ u_ws C TT N, w ∈ wg) (ty0 : Nat → FieldType) (hty : ∀ k, k < N → parseFieldDescriptor (TT k).2.2.1 = some (ty0 k)) (hnm : ∀ a, a < N → ∀ b, b < N → a ≠ b → (TT a).2.1 ≠ (TT b).2.1) (hj : j < N) (h1 : (TT j).1 = C) (hlink : Cond.fieldLink own index C (TT j).2.1 (TT j).2.2.1 ∈ wg) (hfin : (TT j).2.2.2 = false) {ty : FieldType} {v : Int32} (hd : ty0 j = ty) (hn : narrow ty (.int v) = .int v) (hfit : fits ty (.int v) = true) (hdg : decode cc pc = .ok (.putfield index, 3))
    (kk : ∀ (H1 : Heap) (locs1 : List Loc), RI T cI D A H0 ρ (st μ k 0 v) H1 locs1 → W p l e R s m args below meth c H1 locs1 cells slots Q (F0 m (pc + 3) ls rest)) : W p l e R s m args below meth c H locs cells slots Q (F0 m pc ls (.int v :: .ref (ρ o) :: rest)) := by
  refine va_put (D := D) (ci := ci) (ty := ty) X.1.1 X.1.2.1 X.1.2.2.2.2 hin ty0 hty hnm X.1.2.2.2.1 X.2 hI.1 hI.2.1 hI.2.2.1 o (show (pic T cI ρ μ)[o]? = some (ρ o, .inr (ci, fs.map (fv ρ μ))) from pic_get hT) hc j hj (X.1.2.2.2.2 _ hlink) (fun x h => by rw [h1] at h; exact h) hfin (by rw [hty j hj, hd]) hn hfit (by simpa using (List.getElem?_eq_some_iff.mp hf).1) hdg (fun H1 locs1 hP hD hS => kk H1 locs1 ?_)
  rw [pic_putF hT hf hu] at hP hD
  exact ⟨hP, hD, hS, hI.2.2.2⟩
theorem rg_ald (X : Cx p s m args c cc nL own D cI) (hI : RI T cI D A H0 ρ μ H locs) {o n k : Nat} {i : Int32} (hT : T[o]? = some (.inr (n, k))) (hin : inb i n = true) (hdg : decode cc pc = .ok (.iaload, 1))
    (kk : W p l e R s m args below meth c H locs cells slots Q (F0 m (pc + 1) ls (.int (μ k i.toNatClampNeg) :: rest))) : W p l e R s m args below meth c H locs cells slots Q (F0 m pc ls (.int i :: .ref (ρ o) :: rest)) :=
  va_iald X.1.1 X.1.2.1 X.2 hI.1 o 0 (show (pic T cI ρ μ)[o]? = some (ρ o, .inl (cI, n, .inl (μ k))) from pic_get hT) rfl (inb_in hin) hdg kk
theorem rg_ast (X : Cx p s m args c cc nL own D cI) (hI : RI T cI D A H0 ρ μ H locs) {o n k : Nat} {i x : Int32} (hT : T[o]? = some (.inr (n, k))) (hu : onlyA T o k = true) (hin : inb i n = true) (hdg : decode cc pc = .ok (.iastore, 1))
    (kk : ∀ (H1 : Heap) (locs1 : List Loc), RI T cI D A H0 ρ (st μ k i.toNatClampNeg x) H1 locs1 → W p l e R s m args below meth c H1 locs1 cells slots Q (F0 m (pc + 1) ls rest)) : W p l e R s m args below meth c H locs cells slots Q (F0 m pc ls (.int x :: .int i :: .ref (ρ o) :: rest)) := by
  refine va_iast X.1.1 X.1.2.1 X.2 hI.1 hI.2.1 hI.2.2.1 o 0 (show (pic T cI ρ μ)[o]? = some (ρ o, .inl (cI, n, .inl (μ k))) from pic_get hT) rfl (inb_in hin) hdg (fun H1 locs1 hP hD hS => kk H1 locs1 ?_)
  rw [pic_putA hT hu] at hP hD
  exact ⟨hP, hD, hS, hI.2.2.2⟩
theorem rg_len (X : Cx p s m args c cc nL own D cI) (hI : RI T cI D A H0 ρ μ H locs) {o n k : Nat} {v : Int32} (hT : T[o]? = some (.inr (n, k))) (hv : Int32.ofNat n = v) (hdg : decode cc pc = .ok (.arraylength, 1))
    (kk : W p l e R s m args below meth c H locs cells slots Q (F0 m (pc + 1) ls (.int v :: rest))) : W p l e R s m args below meth c H locs cells slots Q (F0 m pc ls (.ref (ρ o) :: rest)) :=
  va_alen X.1.1 X.1.2.1 X.2 hI.1 o 0 (show (pic T cI ρ μ)[o]? = some (ρ o, .inl (cI, n, .inl (μ k))) from pic_get hT) rfl hv hdg kk
/-- the word's room -/
theorem rm_ok {h h' n' : Nat} (hn' : n' ≤ 21) (hh : h' + 1 ≤ h) : (rmL h').frames + 1 ≤ (rmL h).frames ∧ 8 + (n' + 11) + (rmL h').locals ≤ (rmL h).locals := ⟨hh, by show 8 + (n' + 11) + 40 * h' ≤ 40 * h; omega⟩
theorem ri_free (hI : RI T cI D A H0 ρ μ H locs) : ∀ q, va_A (pic T cI ρ μ) H.size q → A q := by
  rintro q (⟨k, e, hk⟩ | hq)
  · exact hI.2.1.2 k _ hk
  · exact hI.2.2.2 q (Nat.le_trans hI.2.2.1.1 hq)
section RC
variable {h h' o ci N n' idx : Nat} {fs : List q_Fd} {C : String} {TT : u_T} {y : MethodName} {cc' : ByteArray} {ret : Option FieldType} {r : Int32} {ν : St} {As st0 : List Value}
theorem rc_vi (X : Cx p s m args c cc nL own D cI) (hI : RI T cI D A s.heap ρ μ H locs) (hM : CI l y cc' n' ret h' T cI D ρ (.ref (ρ o) :: As) μ r ν) (hT : T[o]? = some (.inl (ci, fs))) (hc : vwCl[ci]? = some (C, TT, N)) (g : GoodIn wg (wsV own idx C y (wm y cc' n' ret))) (hd : y.cls = C ∧ y.cls ≠ "java/lang/invoke/MethodHandle" ∧ y.cls ≠ "java/lang/invoke/VarHandle" ∧ (parseMethodDescriptor y.desc).map (fun d => d.parameters.length) = some As.length) (hn' : n' ≤ 21) (hh : h' + 1 ≤ h) (hl : ls.size = nL) (hst : st0 = As.reverse ++ .ref (ρ o) :: rest) (hW : (rest.map fun v => v.category).sum ≤ 8) (hdg : decode cc pc = .ok (.invokevirtual idx, 3))
    (kk : ∀ (H1 : Heap) (locs1 : List Loc), RI T cI D A s.heap ρ ν H1 locs1 → W p l e (rmL h) s m args below meth c H1 locs1 0 0 Q (F0 m (pc + 3) ls (.int r :: rest))) : W p l e (rmL h) s m args below meth c H locs 0 0 Q (F0 m pc ls st0) := by
  subst hst
  have hFc := ri_free hI
  refine va_calli (va_runV (As := As) (rest := rest) X.1 (hM H.size) (cwV As.length X.1.2.2.2.2 g rfl rfl rfl hd (rm_ok hn' hh)) ⟨PcT_blind, va_recv X.2 hI.1 hc (show (pic T cI ρ μ)[o]? = some (ρ o, .inr (ci, fs.map (fv ρ μ))) from pic_get hT), fun U hU hW => ⟨rfl, by rw [hU], by rw [hU]; exact hI.1, va_K.moved hW.alike X.2, hI.2.1.weaken (fun _ _ _ _ => trivial)⟩⟩ rfl rfl hl rfl (lv_room hW) hdg ⟨Nat.le_refl _, Nat.le_refl _⟩) hI.2.2.1 (fun q _ h => hFc q h) hFc (fun r' u t H1 locs1 ht hvm hw hB hz1 hk1 hS => ?_)
  obtain ⟨rfl, rfl⟩ := hw
  exact kk H1 locs1 ⟨by rw [← ht]; exact hB.1, pic_D hI.2.1, hS, hI.2.2.2⟩
theorem rc_vv (X : Cx p s m args c cc nL own D cI) (hI : RI T cI D A s.heap ρ μ H locs) (hM : CV l y cc' n' h' T cI D ρ (.ref (ρ o) :: As) μ ν) (hT : T[o]? = some (.inl (ci, fs))) (hc : vwCl[ci]? = some (C, TT, N)) (g : GoodIn wg (wsV own idx C y (wm y cc' n' none))) (hd : y.cls = C ∧ y.cls ≠ "java/lang/invoke/MethodHandle" ∧ y.cls ≠ "java/lang/invoke/VarHandle" ∧ (parseMethodDescriptor y.desc).map (fun d => d.parameters.length) = some As.length) (hn' : n' ≤ 21) (hh : h' + 1 ≤ h) (hl : ls.size = nL) (hst : st0 = As.reverse ++ .ref (ρ o) :: rest) (hW : (rest.map fun v => v.category).sum ≤ 8) (hdg : decode cc pc = .ok (.invokevirtual idx, 3))
    (kk : ∀ (H1 : Heap) (locs1 : List Loc), RI T cI D A s.heap ρ ν H1 locs1 → W p l e (rmL h) s m args below meth c H1 locs1 0 0 Q (F0 m (pc + 3) ls rest)) : W p l e (rmL h) s m args below meth c H locs 0 0 Q (F0 m pc ls st0) := by
  subst hst
  have hFc := ri_free hI
  refine va_callv (va_runV (As := As) (rest := rest) X.1 (hM H.size) (cwV As.length X.1.2.2.2.2 g rfl rfl rfl hd (rm_ok hn' hh)) ⟨PcT_blind, va_recv X.2 hI.1 hc (show (pic T cI ρ μ)[o]? = some (ρ o, .inr (ci, fs.map (fv ρ μ))) from pic_get hT), fun U hU hW => ⟨rfl, by rw [hU], by rw [hU]; exact hI.1, va_K.moved hW.alike X.2, hI.2.1.weaken (fun _ _ _ _ => trivial)⟩⟩ rfl rfl hl rfl (lv_room hW) hdg ⟨Nat.le_refl _, Nat.le_refl _⟩) hI.2.2.1 (fun q _ h => hFc q h) hFc (fun u t H1 locs1 ht hvm hw hB hz1 hk1 hS => ?_)
  obtain rfl := hw
  exact kk H1 locs1 ⟨by rw [← ht]; exact hB.1, pic_D hI.2.1, hS, hI.2.2.2⟩
theorem rc_si (X : Cx p s m args c cc nL own D cI) (hI : RI T cI D A s.heap ρ μ H locs) (hM : CI l y cc' n' ret h' T cI D ρ As μ r ν) (g : GoodIn wg (wsS own idx y (wm y cc' n' ret))) (hd : y.cls = own ∧ y.cls ≠ "java/lang/invoke/MethodHandle" ∧ y.cls ≠ "java/lang/invoke/VarHandle" ∧ (parseMethodDescriptor y.desc).map (fun d => d.parameters.length) = some As.length) (hn' : n' ≤ 21) (hh : h' + 1 ≤ h) (hl : ls.size = nL) (hst : st0 = As.reverse ++ rest) (hW : (rest.map fun v => v.category).sum ≤ 8) (hdg : decode cc pc = .ok (.invokestatic idx, 3))
    (kk : ∀ (H1 : Heap) (locs1 : List Loc), RI T cI D A s.heap ρ ν H1 locs1 → W p l e (rmL h) s m args below meth c H1 locs1 0 0 Q (F0 m (pc + 3) ls (.int r :: rest))) : W p l e (rmL h) s m args below meth c H locs 0 0 Q (F0 m pc ls st0) := by
  subst hst
  have hFc := ri_free hI
  refine va_calli (va_runS (As := As) (rest := rest) X.1 (hM H.size) (cwS As.length X.1.2.2.2.2 g rfl rfl rfl hd (rm_ok hn' hh)) ⟨PcT_blind, fun U hU hW => ⟨rfl, by rw [hU], by rw [hU]; exact hI.1, va_K.moved hW.alike X.2, hI.2.1.weaken (fun _ _ _ _ => trivial)⟩⟩ rfl rfl hl rfl (lv_room hW) hdg ⟨Nat.le_refl _, Nat.le_refl _⟩) hI.2.2.1 (fun q _ h => hFc q h) hFc (fun r' u t H1 locs1 ht hvm hw hB hz1 hk1 hS => ?_)
  obtain ⟨rfl, rfl⟩ := hw
  exact kk H1 locs1 ⟨by rw [← ht]; exact hB.1, pic_D hI.2.1, hS, hI.2.2.2⟩
end RC
theorem rr_i {μ0 : St} {r : Int32} (X : Cx p s m args c cc nL own D cI) (hr : meth.sig.returnType = some .int) (hlk : meth.locks = false) (hI : RI T cI D (va_A (pic T cI ρ μ0) s.heap.size) s.heap ρ μ H locs) (hdg : decode cc pc = .ok (.ireturn, 1)) :
    W p l e R s m args below meth c H locs 0 0 (MQ below (QiT T cI D ρ μ0 s.heap.size r μ) args s 0 0 (va_A (pic T cI ρ μ0) s.heap.size)) (F0 m pc ls [.int r]) :=
  W.iret (v := r) X.1.1 X.1.2.1 hr (fun t ht hW => ⟨⟨r, μ, rfl, ⟨rfl, rfl⟩, by rw [ht]; exact hI.1, va_K.moved hW.alike X.2, hI.2.1.weaken (fun _ _ _ _ => trivial)⟩, hI.2.2.1.F ht⟩) hI.2.2.1.2.2 hdg hlk
theorem rr_z {μ0 : St} {r : Int32} (X : Cx p s m args c cc nL own D cI) (hr : meth.sig.returnType = some .boolean) (hlk : meth.locks = false) (hn : narrow .boolean (.int r) = .int r) (hI : RI T cI D (va_A (pic T cI ρ μ0) s.heap.size) s.heap ρ μ H locs) (hdg : decode cc pc = .ok (.ireturn, 1)) :
    W p l e R s m args below meth c H locs 0 0 (MQ below (QiT T cI D ρ μ0 s.heap.size r μ) args s 0 0 (va_A (pic T cI ρ μ0) s.heap.size)) (F0 m pc ls [.int r]) :=
  W.zret (v := r) X.1.1 X.1.2.1 hr hn (fun t ht hW => ⟨⟨r, μ, rfl, ⟨rfl, rfl⟩, by rw [ht]; exact hI.1, va_K.moved hW.alike X.2, hI.2.1.weaken (fun _ _ _ _ => trivial)⟩, hI.2.2.1.F ht⟩) hI.2.2.1.2.2 hdg hlk
theorem rr_v {μ0 : St} (X : Cx p s m args c cc nL own D cI) (hr : meth.sig.returnType = none) (hlk : meth.locks = false) (hI : RI T cI D (va_A (pic T cI ρ μ0) s.heap.size) s.heap ρ μ H locs) (hdg : decode cc pc = .ok (.return_, 1)) :
    W p l e R s m args below meth c H locs 0 0 (MQ below (QvT T cI D ρ μ0 s.heap.size μ) args s 0 0 (va_A (pic T cI ρ μ0) s.heap.size)) (F0 m pc ls []) :=
  W.vret X.1.1 X.1.2.1 hr (fun t ht hW => ⟨⟨μ, rfl, rfl, by rw [ht]; exact hI.1, va_K.moved hW.alike X.2, hI.2.1.weaken (fun _ _ _ _ => trivial)⟩, hI.2.2.1.F ht⟩) hI.2.2.1.2.2 hdg hlk
end RB
section RE
variable {l : Launch} {y : MethodName} {cc : ByteArray} {n h : Nat} {ret : Option FieldType} {T : List q_Cd} {cI : ClassId} {D : va_G} {ρ : Nat → Nat} {as : List Value} {μ ν : St} {r : Int32} {own : String}
theorem CI_of (hy : plainName y.cls = true) (hown : y.cls = own) (hlen : (lg_sl as).length ≤ n) (hret : ret = some .int)
    (body : ∀ (p : Program) (e : Env) (s : State) (m : MethodId) (args : Array Value) (below : List Frame) (meth : Method) (c : Code) (Q : State → Prop) (A : Nat → Prop) (H0 : Heap) (locs0 : List Loc), Cx p s m args c cc n own D cI → RI T cI D A s.heap ρ μ H0 locs0 →
      (∀ (H : Heap) (locs : List Loc) (pc : Nat) (ls : Array Slot), RI T cI D A s.heap ρ ν H locs → decode cc pc = .ok (.ireturn, 1) → W p l e (rmL h) s m args below meth c H locs 0 0 Q (F0 m pc ls [.int r])) → ∀ ls : Array Slot, lv_has ls n (lv_args 0 as) →
      W p l e (rmL h) s m args below meth c H0 locs0 0 0 Q (F0 m 0 ls [])) : CI l y cc n ret h T cI D ρ as μ r ν := by
  intro sz
  refine Met.ofW (cc := cc) (maxL := n) (ret := ret) hy rfl ?_
  intro p e s m args below meth c s₁ B hml hv
  obtain ⟨rfl, hsz, hP, hK, hD⟩ := hv
  subst hsz
  have hts := atoms_spec (ws := wm y cc n ret) B.pre
  have hl := lv_entry as (n := n) hlen
  rw [lg_entry_eq]
  have X : Cx p s m as.toArray c cc n own D cI := ⟨⟨B.exec, B.bytes, hml, hown ▸ findClass_of_methodNamed B.named, fun w hw => hts w (List.mem_cons_of_mem _ hw)⟩, hK⟩
  exact body p e s m _ below meth c _ (va_A (pic T cI ρ μ) s.heap.size) s.heap [] X ⟨hP, hD.self, va_S.rf, fun q h => Or.inr h⟩ (fun H locs pc ls hI hdg => rr_i X (B.returns.trans hret) B.notSynchronized hI hdg) _ hl
theorem CZ_of (hy : plainName y.cls = true) (hown : y.cls = own) (hlen : (lg_sl as).length ≤ n) (hret : ret = some .boolean)
    (body : ∀ (p : Program) (e : Env) (s : State) (m : MethodId) (args : Array Value) (below : List Frame) (meth : Method) (c : Code) (Q : State → Prop) (A : Nat → Prop) (H0 : Heap) (locs0 : List Loc), Cx p s m args c cc n own D cI → RI T cI D A s.heap ρ μ H0 locs0 →
      (∀ (H : Heap) (locs : List Loc) (pc : Nat) (ls : Array Slot), narrow .boolean (.int r) = .int r → RI T cI D A s.heap ρ ν H locs → decode cc pc = .ok (.ireturn, 1) → W p l e (rmL h) s m args below meth c H locs 0 0 Q (F0 m pc ls [.int r])) → ∀ ls : Array Slot, lv_has ls n (lv_args 0 as) →
      W p l e (rmL h) s m args below meth c H0 locs0 0 0 Q (F0 m 0 ls [])) : CI l y cc n ret h T cI D ρ as μ r ν := by
  intro sz
  refine Met.ofW (cc := cc) (maxL := n) (ret := ret) hy rfl ?_
  intro p e s m args below meth c s₁ B hml hv
  obtain ⟨rfl, hsz, hP, hK, hD⟩ := hv
  subst hsz
  have hts := atoms_spec (ws := wm y cc n ret) B.pre
  have hl := lv_entry as (n := n) hlen
  rw [lg_entry_eq]
  have X : Cx p s m as.toArray c cc n own D cI := ⟨⟨B.exec, B.bytes, hml, hown ▸ findClass_of_methodNamed B.named, fun w hw => hts w (List.mem_cons_of_mem _ hw)⟩, hK⟩
  exact body p e s m _ below meth c _ (va_A (pic T cI ρ μ) s.heap.size) s.heap [] X ⟨hP, hD.self, va_S.rf, fun q h => Or.inr h⟩ (fun H locs pc ls hn hI hdg => rr_z X (B.returns.trans hret) B.notSynchronized hn hI hdg) _ hl
theorem CV_of (hy : plainName y.cls = true) (hown : y.cls = own) (hlen : (lg_sl as).length ≤ n)
    (body : ∀ (p : Program) (e : Env) (s : State) (m : MethodId) (args : Array Value) (below : List Frame) (meth : Method) (c : Code) (Q : State → Prop) (A : Nat → Prop) (H0 : Heap) (locs0 : List Loc), Cx p s m args c cc n own D cI → RI T cI D A s.heap ρ μ H0 locs0 →
      (∀ (H : Heap) (locs : List Loc) (pc : Nat) (ls : Array Slot), RI T cI D A s.heap ρ ν H locs → decode cc pc = .ok (.return_, 1) → W p l e (rmL h) s m args below meth c H locs 0 0 Q (F0 m pc ls [])) → ∀ ls : Array Slot, lv_has ls n (lv_args 0 as) →
      W p l e (rmL h) s m args below meth c H0 locs0 0 0 Q (F0 m 0 ls [])) : CV l y cc n h T cI D ρ as μ ν := by
  intro sz
  refine Met.ofW (cc := cc) (maxL := n) (ret := none) hy rfl ?_
  intro p e s m args below meth c s₁ B hml hv
  obtain ⟨rfl, hsz, hP, hK, hD⟩ := hv
  subst hsz
  have hts := atoms_spec (ws := wm y cc n none) B.pre
  have hl := lv_entry as (n := n) hlen
  rw [lg_entry_eq]
  have X : Cx p s m as.toArray c cc n own D cI := ⟨⟨B.exec, B.bytes, hml, hown ▸ findClass_of_methodNamed B.named, fun w hw => hts w (List.mem_cons_of_mem _ hw)⟩, hK⟩
  exact body p e s m _ below meth c _ (va_A (pic T cI ρ μ) s.heap.size) s.heap [] X ⟨hP, hD.self, va_S.rf, fun q h => Or.inr h⟩ (fun H locs pc ls hI hdg => rr_v X B.returns B.notSynchronized hI hdg) _ hl
end RE
theorem rg_lookF {ps : List (Int × Int)} {x : Int} (h : ps.all (fun q => q.1 != x) = true) : ps.find? (fun q => q.1 == x) = none := by
  induction ps with
  | nil => rfl
  | cons a t ih =>
    simp only [List.all_cons, Bool.and_eq_true, bne_iff_ne, ne_eq] at h
    simp only [List.find?_cons]
    rw [show (a.1 == x) = false from by simpa using h.1]
    exact ih h.2
end
section
/-! the pictures of the class and of the reference; calls -/
abbrev TC : List q_Cd := [.inl (5, [(false, 1), (false, 2), (false, 3), (false, 4), (false, 5), (false, 6)]), .inl (4, [(false, 7), (true, 121)]), .inl (1, [(false, 8), (true, 141), (true, 142)]), .inl (3, [(false, 9), (false, 10), (false, 11), (false, 12), (true, 164), (true, 165)]), .inl (3, [(false, 13), (false, 14), (false, 15), (false, 16), (true, 184), (true, 185)]), .inl (0, [(false, 1), (false, 4), (false, 17), (true, 203), (true, 204), (true, 205)]), .inl (2, [(false, 3), (false, 2), (false, 18), (false, 19), (false, 20), (false, 21), (false, 22), (false, 23), (true, 228), (true, 229), (true, 230), (true, 231), (true, 232), (true, 233)]), .inr (160, 7), .inr (8, 8), .inr (160, 9), .inr (160, 10), .inr (6, 11), .inr (6, 12), .inr (160, 13), .inr (160, 14), .inr (6, 15), .inr (6, 16), .inr (160, 17), .inr (8, 18), .inr (32, 19), .inr (80, 20), .inr (10, 21), .inr (512, 22), .inr (32, 23)]
abbrev TM : List q_Cd := [.inl (6, [(true, 100), (true, 101), (false, 1), (true, 103), (true, 104), (true, 105), (true, 106), (true, 107), (true, 108), (false, 2), (false, 3), (false, 4), (false, 5), (false, 6), (false, 7), (false, 8), (false, 9), (true, 117), (true, 118), (false, 10), (false, 11), (false, 12), (true, 122), (false, 13), (false, 14), (false, 15), (true, 126), (false, 16), (false, 17), (false, 18), (false, 19), (true, 131), (false, 20), (false, 21), (true, 134), (true, 135), (true, 136), (true, 137), (true, 138), (true, 139), (true, 140), (true, 141), (false, 22), (false, 23), (false, 24), (false, 25), (true, 146), (true, 147), (false, 26), (false, 27), (false, 28), (false, 29)]), .inr (161, 1), .inr (600, 2), .inr (600, 3), .inr (600, 4), .inr (600, 5), .inr (6, 6), .inr (6, 7), .inr (6, 8), .inr (6, 9), .inr (160, 10), .inr (160, 11), .inr (160, 12), .inr (5, 13), .inr (5, 14), .inr (5, 15), .inr (5, 16), .inr (5, 17), .inr (5, 18), .inr (5, 19), .inr (64, 20), .inr (64, 21), .inr (8, 22), .inr (32, 23), .inr (8, 24), .inr (32, 25), .inr (80, 26), .inr (10, 27), .inr (10, 28), .inr (1000, 29)]
def ca2 {α β γ : Type} (o : Option (α × β)) (k : α → β → Option γ) : Option γ := match o with
  | some x => k x.1 x.2
  | none => none
theorem ca2_some {α β γ : Type} {o : Option (α × β)} {k : α → β → Option γ} {r : γ} (h : ca2 o k = some r) : ∃ a b, o = some (a, b) ∧ k a b = some r := by
  cases o with
  | none => cases h
  | some x => exact ⟨x.1, x.2, rfl, h⟩
theorem gV_X6_113 : GoodIn wg (wsV RX6 113 RX6 yX6_token (wm yX6_token cX6_token 1 (some .int))) := gi_V wM_X6_113 wN_X6_token wV_X6_token wI_X6 wC_X6_token
theorem hd_X6_token : yX6_token.cls = RX6 ∧ yX6_token.cls ≠ "java/lang/invoke/MethodHandle" ∧ yX6_token.cls ≠ "java/lang/invoke/VarHandle" ∧ (parseMethodDescriptor yX6_token.desc).map (fun d => d.parameters.length) = some 0 := by decide +kernel
theorem gV_X6_117 : GoodIn wg (wsV RX6 117 RX6 yX6_wrong (wm yX6_wrong cX6_wrong 3 none)) := gi_V wM_X6_117 wN_X6_wrong wV_X6_wrong wI_X6 wC_X6_wrong
theorem hd_X6_wrong : yX6_wrong.cls = RX6 ∧ yX6_wrong.cls ≠ "java/lang/invoke/MethodHandle" ∧ yX6_wrong.cls ≠ "java/lang/invoke/VarHandle" ∧ (parseMethodDescriptor yX6_wrong.desc).map (fun d => d.parameters.length) = some 2 := by decide +kernel
theorem gV_X6_128 : GoodIn wg (wsV RX6 128 RX6 yX6_must (wm yX6_must cX6_must 2 (some .boolean))) := gi_V wM_X6_128 wN_X6_must wV_X6_must wI_X6 wC_X6_must
theorem hd_X6_must : yX6_must.cls = RX6 ∧ yX6_must.cls ≠ "java/lang/invoke/MethodHandle" ∧ yX6_must.cls ≠ "java/lang/invoke/VarHandle" ∧ (parseMethodDescriptor yX6_must.desc).map (fun d => d.parameters.length) = some 1 := by decide +kernel
theorem gV_X6_132 : GoodIn wg (wsS RX6 132 yX6_in (wm yX6_in cX6_in 3 (some .boolean))) := gi_S wM_X6_132 wS_X6_in wI_X6 wC_X6_in
theorem hd_X6_in : yX6_in.cls = RX6 ∧ yX6_in.cls ≠ "java/lang/invoke/MethodHandle" ∧ yX6_in.cls ≠ "java/lang/invoke/VarHandle" ∧ (parseMethodDescriptor yX6_in.desc).map (fun d => d.parameters.length) = some 3 := by decide +kernel
theorem gV_X6_136 : GoodIn wg (wsV RX6 136 RX6 yX6_begins (wm yX6_begins cX6_begins 4 none)) := gi_V wM_X6_136 wN_X6_begins wV_X6_begins wI_X6 wC_X6_begins
theorem hd_X6_begins : yX6_begins.cls = RX6 ∧ yX6_begins.cls ≠ "java/lang/invoke/MethodHandle" ∧ yX6_begins.cls ≠ "java/lang/invoke/VarHandle" ∧ (parseMethodDescriptor yX6_begins.desc).map (fun d => d.parameters.length) = some 3 := by decide +kernel
theorem gV_X6_152 : GoodIn wg (wsV RX6 152 RX6 yX6_enters (wm yX6_enters cX6_enters 3 none)) := gi_V wM_X6_152 wN_X6_enters wV_X6_enters wI_X6 wC_X6_enters
theorem hd_X6_enters : yX6_enters.cls = RX6 ∧ yX6_enters.cls ≠ "java/lang/invoke/MethodHandle" ∧ yX6_enters.cls ≠ "java/lang/invoke/VarHandle" ∧ (parseMethodDescriptor yX6_enters.desc).map (fun d => d.parameters.length) = some 2 := by decide +kernel
theorem gV_X6_155 : GoodIn wg (wsV RX6 155 RX6 yX6_fresh (wm yX6_fresh cX6_fresh 1 none)) := gi_V wM_X6_155 wN_X6_fresh wV_X6_fresh wI_X6 wC_X6_fresh
theorem hd_X6_fresh : yX6_fresh.cls = RX6 ∧ yX6_fresh.cls ≠ "java/lang/invoke/MethodHandle" ∧ yX6_fresh.cls ≠ "java/lang/invoke/VarHandle" ∧ (parseMethodDescriptor yX6_fresh.desc).map (fun d => d.parameters.length) = some 0 := by decide +kernel
theorem gV_X6_158 : GoodIn wg (wsV RX6 158 RX6 yX6_emit (wm yX6_emit cX6_emit 3 (some .int))) := gi_V wM_X6_158 wN_X6_emit wV_X6_emit wI_X6 wC_X6_emit
theorem hd_X6_emit : yX6_emit.cls = RX6 ∧ yX6_emit.cls ≠ "java/lang/invoke/MethodHandle" ∧ yX6_emit.cls ≠ "java/lang/invoke/VarHandle" ∧ (parseMethodDescriptor yX6_emit.desc).map (fun d => d.parameters.length) = some 2 := by decide +kernel
theorem gV_X6_165 : GoodIn wg (wsV RX6 165 RX6 yX6_blockEnds (wm yX6_blockEnds cX6_blockEnds 3 none)) := gi_V wM_X6_165 wN_X6_blockEnds wV_X6_blockEnds wI_X6 wC_X6_blockEnds
theorem hd_X6_blockEnds : yX6_blockEnds.cls = RX6 ∧ yX6_blockEnds.cls ≠ "java/lang/invoke/MethodHandle" ∧ yX6_blockEnds.cls ≠ "java/lang/invoke/VarHandle" ∧ (parseMethodDescriptor yX6_blockEnds.desc).map (fun d => d.parameters.length) = some 0 := by decide +kernel
theorem gV_X6_177 : GoodIn wg (wsV RX6 177 RX6 yX6_worth (wm yX6_worth cX6_worth 2 none)) := gi_V wM_X6_177 wN_X6_worth wV_X6_worth wI_X6 wC_X6_worth
theorem hd_X6_worth : yX6_worth.cls = RX6 ∧ yX6_worth.cls ≠ "java/lang/invoke/MethodHandle" ∧ yX6_worth.cls ≠ "java/lang/invoke/VarHandle" ∧ (parseMethodDescriptor yX6_worth.desc).map (fun d => d.parameters.length) = some 1 := by decide +kernel
theorem gV_X6_181 : GoodIn wg (wsV RX6 181 RX6 yX6_call (wm yX6_call cX6_call 1 (some .int))) := gi_V wM_X6_181 wN_X6_call wV_X6_call wI_X6 wC_X6_call
theorem hd_X6_call : yX6_call.cls = RX6 ∧ yX6_call.cls ≠ "java/lang/invoke/MethodHandle" ∧ yX6_call.cls ≠ "java/lang/invoke/VarHandle" ∧ (parseMethodDescriptor yX6_call.desc).map (fun d => d.parameters.length) = some 0 := by decide +kernel
theorem gV_X6_184 : GoodIn wg (wsV RX6 184 RX6 yX6_callEnds (wm yX6_callEnds cX6_callEnds 2 none)) := gi_V wM_X6_184 wN_X6_callEnds wV_X6_callEnds wI_X6 wC_X6_callEnds
theorem hd_X6_callEnds : yX6_callEnds.cls = RX6 ∧ yX6_callEnds.cls ≠ "java/lang/invoke/MethodHandle" ∧ yX6_callEnds.cls ≠ "java/lang/invoke/VarHandle" ∧ (parseMethodDescriptor yX6_callEnds.desc).map (fun d => d.parameters.length) = some 1 := by decide +kernel
theorem gV_X6_187 : GoodIn wg (wsV RX6 187 RX6 yX6_arguments (wm yX6_arguments cX6_arguments 2 none)) := gi_V wM_X6_187 wN_X6_arguments wV_X6_arguments wI_X6 wC_X6_arguments
theorem hd_X6_arguments : yX6_arguments.cls = RX6 ∧ yX6_arguments.cls ≠ "java/lang/invoke/MethodHandle" ∧ yX6_arguments.cls ≠ "java/lang/invoke/VarHandle" ∧ (parseMethodDescriptor yX6_arguments.desc).map (fun d => d.parameters.length) = some 1 := by decide +kernel
theorem gV_X6_190 : GoodIn wg (wsS RX6 190 yX6_levelOf (wm yX6_levelOf cX6_levelOf 1 (some .int))) := gi_S wM_X6_190 wS_X6_levelOf wI_X6 wC_X6_levelOf
theorem hd_X6_levelOf : yX6_levelOf.cls = RX6 ∧ yX6_levelOf.cls ≠ "java/lang/invoke/MethodHandle" ∧ yX6_levelOf.cls ≠ "java/lang/invoke/VarHandle" ∧ (parseMethodDescriptor yX6_levelOf.desc).map (fun d => d.parameters.length) = some 1 := by decide +kernel
theorem gV_X6_194 : GoodIn wg (wsV RX6 194 RX6 yX6_reduce (wm yX6_reduce cX6_reduce 2 none)) := gi_V wM_X6_194 wN_X6_reduce wV_X6_reduce wI_X6 wC_X6_reduce
theorem hd_X6_reduce : yX6_reduce.cls = RX6 ∧ yX6_reduce.cls ≠ "java/lang/invoke/MethodHandle" ∧ yX6_reduce.cls ≠ "java/lang/invoke/VarHandle" ∧ (parseMethodDescriptor yX6_reduce.desc).map (fun d => d.parameters.length) = some 1 := by decide +kernel
theorem gV_X6_197 : GoodIn wg (wsV RX6 197 RX6 yX6_valueEnds (wm yX6_valueEnds cX6_valueEnds 4 none)) := gi_V wM_X6_197 wN_X6_valueEnds wV_X6_valueEnds wI_X6 wC_X6_valueEnds
theorem hd_X6_valueEnds : yX6_valueEnds.cls = RX6 ∧ yX6_valueEnds.cls ≠ "java/lang/invoke/MethodHandle" ∧ yX6_valueEnds.cls ≠ "java/lang/invoke/VarHandle" ∧ (parseMethodDescriptor yX6_valueEnds.desc).map (fun d => d.parameters.length) = some 2 := by decide +kernel
theorem gV_X6_200 : GoodIn wg (wsV RX6 200 RX6 yX6_argumentEnds (wm yX6_argumentEnds cX6_argumentEnds 3 none)) := gi_V wM_X6_200 wN_X6_argumentEnds wV_X6_argumentEnds wI_X6 wC_X6_argumentEnds
theorem hd_X6_argumentEnds : yX6_argumentEnds.cls = RX6 ∧ yX6_argumentEnds.cls ≠ "java/lang/invoke/MethodHandle" ∧ yX6_argumentEnds.cls ≠ "java/lang/invoke/VarHandle" ∧ (parseMethodDescriptor yX6_argumentEnds.desc).map (fun d => d.parameters.length) = some 2 := by decide +kernel
theorem gV_X6_203 : GoodIn wg (wsV RX6 203 RX6 yX6_function (wm yX6_function cX6_function 2 none)) := gi_V wM_X6_203 wN_X6_function wV_X6_function wI_X6 wC_X6_function
theorem hd_X6_function : yX6_function.cls = RX6 ∧ yX6_function.cls ≠ "java/lang/invoke/MethodHandle" ∧ yX6_function.cls ≠ "java/lang/invoke/VarHandle" ∧ (parseMethodDescriptor yX6_function.desc).map (fun d => d.parameters.length) = some 0 := by decide +kernel
theorem gV_X6_206 : GoodIn wg (wsV RX6 206 RX6 yX6_statement (wm yX6_statement cX6_statement 3 none)) := gi_V wM_X6_206 wN_X6_statement wV_X6_statement wI_X6 wC_X6_statement
theorem hd_X6_statement : yX6_statement.cls = RX6 ∧ yX6_statement.cls ≠ "java/lang/invoke/MethodHandle" ∧ yX6_statement.cls ≠ "java/lang/invoke/VarHandle" ∧ (parseMethodDescriptor yX6_statement.desc).map (fun d => d.parameters.length) = some 0 := by decide +kernel
theorem gV_X6_209 : GoodIn wg (wsV RX6 209 RX6 yX6_piece (wm yX6_piece cX6_piece 4 none)) := gi_V wM_X6_209 wN_X6_piece wV_X6_piece wI_X6 wC_X6_piece
theorem hd_X6_piece : yX6_piece.cls = RX6 ∧ yX6_piece.cls ≠ "java/lang/invoke/MethodHandle" ∧ yX6_piece.cls ≠ "java/lang/invoke/VarHandle" ∧ (parseMethodDescriptor yX6_piece.desc).map (fun d => d.parameters.length) = some 0 := by decide +kernel
theorem gV_X6_212 : GoodIn wg (wsV RX6 212 RX6 yX6_behind (wm yX6_behind cX6_behind 4 none)) := gi_V wM_X6_212 wN_X6_behind wV_X6_behind wI_X6 wC_X6_behind
theorem hd_X6_behind : yX6_behind.cls = RX6 ∧ yX6_behind.cls ≠ "java/lang/invoke/MethodHandle" ∧ yX6_behind.cls ≠ "java/lang/invoke/VarHandle" ∧ (parseMethodDescriptor yX6_behind.desc).map (fun d => d.parameters.length) = some 0 := by decide +kernel
theorem gV_X6_227 : GoodIn wg (wsV RX6 227 RX6 yX6_readText (wm yX6_readText cX6_readText 3 none)) := gi_V wM_X6_227 wN_X6_readText wV_X6_readText wI_X6 wC_X6_readText
theorem hd_X6_readText : yX6_readText.cls = RX6 ∧ yX6_readText.cls ≠ "java/lang/invoke/MethodHandle" ∧ yX6_readText.cls ≠ "java/lang/invoke/VarHandle" ∧ (parseMethodDescriptor yX6_readText.desc).map (fun d => d.parameters.length) = some 0 := by decide +kernel
theorem gV_X6_236 : GoodIn wg (wsV RX6 236 RX6 yX6_nothing (wm yX6_nothing cX6_nothing 2 none)) := gi_V wM_X6_236 wN_X6_nothing wV_X6_nothing wI_X6 wC_X6_nothing
theorem hd_X6_nothing : yX6_nothing.cls = RX6 ∧ yX6_nothing.cls ≠ "java/lang/invoke/MethodHandle" ∧ yX6_nothing.cls ≠ "java/lang/invoke/VarHandle" ∧ (parseMethodDescriptor yX6_nothing.desc).map (fun d => d.parameters.length) = some 0 := by decide +kernel
theorem gV_X6_242 : GoodIn wg (wsV RX6 242 RX6 yX6_enter (wm yX6_enter cX6_enter 4 none)) := gi_V wM_X6_242 wN_X6_enter wV_X6_enter wI_X6 wC_X6_enter
theorem hd_X6_enter : yX6_enter.cls = RX6 ∧ yX6_enter.cls ≠ "java/lang/invoke/MethodHandle" ∧ yX6_enter.cls ≠ "java/lang/invoke/VarHandle" ∧ (parseMethodDescriptor yX6_enter.desc).map (fun d => d.parameters.length) = some 2 := by decide +kernel
theorem gV_X6_248 : GoodIn wg (wsS RX6 248 yX6_wrap (wm yX6_wrap cX6_wrap 1 (some .int))) := gi_S wM_X6_248 wS_X6_wrap wI_X6 wC_X6_wrap
theorem hd_X6_wrap : yX6_wrap.cls = RX6 ∧ yX6_wrap.cls ≠ "java/lang/invoke/MethodHandle" ∧ yX6_wrap.cls ≠ "java/lang/invoke/VarHandle" ∧ (parseMethodDescriptor yX6_wrap.desc).map (fun d => d.parameters.length) = some 1 := by decide +kernel
theorem gV_X6_251 : GoodIn wg (wsV RX6 251 RX6 yX6_push (wm yX6_push cX6_push 2 none)) := gi_V wM_X6_251 wN_X6_push wV_X6_push wI_X6 wC_X6_push
theorem hd_X6_push : yX6_push.cls = RX6 ∧ yX6_push.cls ≠ "java/lang/invoke/MethodHandle" ∧ yX6_push.cls ≠ "java/lang/invoke/VarHandle" ∧ (parseMethodDescriptor yX6_push.desc).map (fun d => d.parameters.length) = some 1 := by decide +kernel
theorem gV_X6_254 : GoodIn wg (wsV RX6 254 RX6 yX6_pop (wm yX6_pop cX6_pop 1 (some .int))) := gi_V wM_X6_254 wN_X6_pop wV_X6_pop wI_X6 wC_X6_pop
theorem hd_X6_pop : yX6_pop.cls = RX6 ∧ yX6_pop.cls ≠ "java/lang/invoke/MethodHandle" ∧ yX6_pop.cls ≠ "java/lang/invoke/VarHandle" ∧ (parseMethodDescriptor yX6_pop.desc).map (fun d => d.parameters.length) = some 0 := by decide +kernel
theorem gV_X6_257 : GoodIn wg (wsV RX6 257 RX6 yX6_reads (wm yX6_reads cX6_reads 2 none)) := gi_V wM_X6_257 wN_X6_reads wV_X6_reads wI_X6 wC_X6_reads
theorem hd_X6_reads : yX6_reads.cls = RX6 ∧ yX6_reads.cls ≠ "java/lang/invoke/MethodHandle" ∧ yX6_reads.cls ≠ "java/lang/invoke/VarHandle" ∧ (parseMethodDescriptor yX6_reads.desc).map (fun d => d.parameters.length) = some 0 := by decide +kernel
theorem gV_X6_260 : GoodIn wg (wsV RX6 260 RX6 yX6_place (wm yX6_place cX6_place 5 none)) := gi_V wM_X6_260 wN_X6_place wV_X6_place wI_X6 wC_X6_place
theorem hd_X6_place : yX6_place.cls = RX6 ∧ yX6_place.cls ≠ "java/lang/invoke/MethodHandle" ∧ yX6_place.cls ≠ "java/lang/invoke/VarHandle" ∧ (parseMethodDescriptor yX6_place.desc).map (fun d => d.parameters.length) = some 2 := by decide +kernel
theorem gV_X6_264 : GoodIn wg (wsV RX6 264 RX6 yX6_calls (wm yX6_calls cX6_calls 5 none)) := gi_V wM_X6_264 wN_X6_calls wV_X6_calls wI_X6 wC_X6_calls
theorem hd_X6_calls : yX6_calls.cls = RX6 ∧ yX6_calls.cls ≠ "java/lang/invoke/MethodHandle" ∧ yX6_calls.cls ≠ "java/lang/invoke/VarHandle" ∧ (parseMethodDescriptor yX6_calls.desc).map (fun d => d.parameters.length) = some 1 := by decide +kernel
theorem gV_X6_266 : GoodIn wg (wsV RX6 266 RX6 yX6_returns (wm yX6_returns cX6_returns 2 none)) := gi_V wM_X6_266 wN_X6_returns wV_X6_returns wI_X6 wC_X6_returns
theorem hd_X6_returns : yX6_returns.cls = RX6 ∧ yX6_returns.cls ≠ "java/lang/invoke/MethodHandle" ∧ yX6_returns.cls ≠ "java/lang/invoke/VarHandle" ∧ (parseMethodDescriptor yX6_returns.desc).map (fun d => d.parameters.length) = some 0 := by decide +kernel
theorem gV_X6_269 : GoodIn wg (wsV RX6 269 RX6 yX6_prints (wm yX6_prints cX6_prints 1 none)) := gi_V wM_X6_269 wN_X6_prints wV_X6_prints wI_X6 wC_X6_prints
theorem hd_X6_prints : yX6_prints.cls = RX6 ∧ yX6_prints.cls ≠ "java/lang/invoke/MethodHandle" ∧ yX6_prints.cls ≠ "java/lang/invoke/VarHandle" ∧ (parseMethodDescriptor yX6_prints.desc).map (fun d => d.parameters.length) = some 0 := by decide +kernel
theorem gV_X6_272 : GoodIn wg (wsV RX6 272 RX6 yX6_operates (wm yX6_operates cX6_operates 4 none)) := gi_V wM_X6_272 wN_X6_operates wV_X6_operates wI_X6 wC_X6_operates
theorem hd_X6_operates : yX6_operates.cls = RX6 ∧ yX6_operates.cls ≠ "java/lang/invoke/MethodHandle" ∧ yX6_operates.cls ≠ "java/lang/invoke/VarHandle" ∧ (parseMethodDescriptor yX6_operates.desc).map (fun d => d.parameters.length) = some 1 := by decide +kernel
theorem gV_X6_275 : GoodIn wg (wsV RX6 275 RX6 yX6_does (wm yX6_does cX6_does 4 none)) := gi_V wM_X6_275 wN_X6_does wV_X6_does wI_X6 wC_X6_does
theorem hd_X6_does : yX6_does.cls = RX6 ∧ yX6_does.cls ≠ "java/lang/invoke/MethodHandle" ∧ yX6_does.cls ≠ "java/lang/invoke/VarHandle" ∧ (parseMethodDescriptor yX6_does.desc).map (fun d => d.parameters.length) = some 2 := by decide +kernel
end
section
/-! the reference, as pure programs -/
def f_M_thrown  (μ : St) : Option Int32 :=
some (μ 100 0)
def f_M_token  (μ : St) : Option Int32 :=
if (μ 101 0) ≤ (μ 105 0) then (
some (-1 : Int32))
else (
gd (inb (μ 105 0) 161) <| nm (μ 1 (μ 105 0).toNatClampNeg) fun x3 =>
some x3)
def f_M_wrong (a1 : Int32) (a2 : Int32) (μ : St) : Option St :=
if (μ 103 0) = 0 then (
nm (st μ 103 0 a1) fun μ2 =>
nm (st μ2 104 0 a2) fun μ3 =>
some μ3)
else (
some μ)
def f_M_must (a1 : Int32) (μ : St) : Option (Int32 × St) :=
ca (f_M_token μ) fun x2 =>
if x2 = a1 then (
nm (st μ 105 0 ((μ 105 0) + (1 : Int32))) fun μ4 =>
some ((1 : Int32), μ4))
else (
ca (f_M_wrong (1 : Int32) (μ 105 0) μ) fun μ6 =>
some ((0 : Int32), μ6))
def f_M_in (a0 : Int32) (a1 : Int32) (a2 : Int32) : Option Int32 :=
jn (some (0 : Int32)) fun k2 =>
if a0 < a1 then (
k2)
else (
if a2 < a0 then (
k2)
else (
some (1 : Int32)))
def f_M_emit (a1 : Int32) (a2 : Int32) (μ : St) : Option (Int32 × St) :=
gd (inb (μ 108 0) 600) <| nm (st μ 2 (μ 108 0).toNatClampNeg a1) fun μ2 =>
gd (inb (μ2 108 0) 600) <| nm (st μ2 3 (μ2 108 0).toNatClampNeg a2) fun μ4 =>
nm (st μ4 108 0 ((μ4 108 0) + (1 : Int32))) fun μ5 =>
some ((μ5 108 0) - (1 : Int32), μ5)
def f_M_wrap (a0 : Int32) : Option Int32 :=
some ((a0 <<< ((16 : Int32) &&& 31)) >>> ((16 : Int32) &&& 31))
def f_M_levelOf (a0 : Int32) : Option Int32 :=
jn (some (1 : Int32)) fun k2 =>
if a0 = (18 : Int32) then (
k2)
else (
if a0 = (19 : Int32) then (
k2)
else (
jn (some (2 : Int32)) fun k7 =>
if a0 = (13 : Int32) then (
k7)
else (
if a0 = (14 : Int32) then (
k7)
else (
jn (some (0 : Int32)) fun k12 =>
if a0 < (15 : Int32) then (
k12)
else (
if (17 : Int32) < a0 then (
k12)
else (
some (3 : Int32)))))))
def f_M_push (a1 : Int32) (μ : St) : Option St :=
ca (f_M_wrap a1) fun x2 =>
gd (inb (μ 147 0) 1000) <| nm (st μ 29 (μ 147 0).toNatClampNeg x2) fun μ4 =>
nm (st μ4 147 0 ((μ4 147 0) + (1 : Int32))) fun μ5 =>
some μ5
def f_M_pop  (μ : St) : Option (Int32 × St) :=
nm (st μ 147 0 ((μ 147 0) - (1 : Int32))) fun μ1 =>
gd (inb (μ1 147 0) 1000) <| nm (μ1 29 (μ1 147 0).toNatClampNeg) fun x3 =>
some (x3, μ1)
def f_M_begins (a1 : Int32) (a2 : Int32) (a3 : Int32) (μ : St) : Option St :=
if (μ 122 0) = (4 : Int32) then (
ca (f_M_wrong (3 : Int32) (μ 105 0) μ) fun μ11 =>
some μ11)
else (
gd (inb (μ 122 0) 5) <| nm (st μ 13 (μ 122 0).toNatClampNeg a1) fun μ3 =>
gd (inb (μ3 122 0) 5) <| nm (st μ3 14 (μ3 122 0).toNatClampNeg a2) fun μ5 =>
gd (inb (μ5 122 0) 5) <| nm (st μ5 15 (μ5 122 0).toNatClampNeg a3) fun μ7 =>
nm (st μ7 122 0 ((μ7 122 0) + (1 : Int32))) fun μ8 =>
nm (st μ8 106 0 (1 : Int32)) fun μ9 =>
some μ9)
def f_M_fresh  (μ : St) : Option St :=
gd (inb ((μ 126 0) - (1 : Int32)) 5) <| nm (st μ 18 ((μ 126 0) - (1 : Int32)).toNatClampNeg (μ 131 0)) fun μ2 =>
gd (inb ((μ2 126 0) - (1 : Int32)) 5) <| nm (st μ2 17 ((μ2 126 0) - (1 : Int32)).toNatClampNeg (-1 : Int32)) fun μ4 =>
nm (st μ4 106 0 (3 : Int32)) fun μ5 =>
some μ5
def f_M_enters (a1 : Int32) (a2 : Int32) (μ : St) : Option St :=
if (μ 126 0) = (4 : Int32) then (
ca (f_M_wrong (3 : Int32) (μ 105 0) μ) fun μ10 =>
some μ10)
else (
gd (inb (μ 126 0) 5) <| nm (st μ 16 (μ 126 0).toNatClampNeg a1) fun μ3 =>
gd (inb (μ3 126 0) 5) <| nm (st μ3 19 (μ3 126 0).toNatClampNeg a2) fun μ5 =>
nm (st μ5 126 0 ((μ5 126 0) + (1 : Int32))) fun μ6 =>
ca (f_M_fresh μ6) fun μ8 =>
some μ8)
def f_M_worth (a1 : Int32) (μ : St) : Option St :=
nm (st μ 126 0 (0 : Int32)) fun μ1 =>
nm (st μ1 131 0 (0 : Int32)) fun μ2 =>
ca (f_M_enters a1 (0 : Int32) μ2) fun μ4 =>
some μ4
def f_M_call  (μ : St) : Option (Int32 × St) :=
gd (inb (μ 118 0) 160) <| nm (st μ 10 (μ 118 0).toNatClampNeg (μ 105 0)) fun μ2 =>
ca (f_M_token μ2) fun x4 =>
gd (inb (μ2 118 0) 160) <| nm (st μ2 11 (μ2 118 0).toNatClampNeg (x4 - (52 : Int32))) fun μ6 =>
gd (inb (μ6 118 0) 160) <| nm (st μ6 12 (μ6 118 0).toNatClampNeg (0 : Int32)) fun μ8 =>
nm (st μ8 118 0 ((μ8 118 0) + (1 : Int32))) fun μ9 =>
nm (st μ9 105 0 ((μ9 105 0) + (1 : Int32))) fun μ10 =>
some ((μ10 118 0) - (1 : Int32), μ10)
def f_M_callEnds (a1 : Int32) (μ : St) : Option St :=
ca2 (f_M_emit (7 : Int32) a1 μ) fun x2 μ3 =>
some μ3
def f_M_arguments (a1 : Int32) (μ : St) : Option St :=
ca (f_M_token μ) fun x2 =>
if x2 = (7 : Int32) then (
nm (st μ 105 0 ((μ 105 0) + (1 : Int32))) fun μ8 =>
ca (f_M_callEnds a1 μ8) fun μ10 =>
some μ10)
else (
gd (inb a1 160) <| nm (st μ 12 a1.toNatClampNeg (1 : Int32)) fun μ5 =>
ca (f_M_enters (2 : Int32) a1 μ5) fun μ7 =>
some μ7)
def f_M_reduce (N : Nat) (a1 : Int32) (μ : St) : Option St :=
lpk (fun (k2 : St → Option St) (μ1 : St) =>
gd (inb ((μ1 126 0) - (1 : Int32)) 5) <| nm (μ1 18 ((μ1 126 0) - (1 : Int32)).toNatClampNeg) fun x5 =>
if (μ1 131 0) ≤ x5 then (
some μ1)
else (
gd (inb ((μ1 131 0) - (1 : Int32)) 64) <| nm (μ1 21 ((μ1 131 0) - (1 : Int32)).toNatClampNeg) fun x8 =>
if x8 < a1 then (
some μ1)
else (
nm (st μ1 131 0 ((μ1 131 0) - (1 : Int32))) fun μ10 =>
gd (inb (μ10 131 0) 64) <| nm (μ10 20 (μ10 131 0).toNatClampNeg) fun x12 =>
ca2 (f_M_emit (x12 + (20 : Int32)) (0 : Int32) μ10) fun x14 μ15 =>
k2 μ15))) (fun _ => none) N μ
def f_M_blockEnds  (μ : St) : Option St :=
nm (st μ 105 0 ((μ 105 0) + (1 : Int32))) fun μ1 =>
nm (st μ1 122 0 ((μ1 122 0) - (1 : Int32))) fun μ2 =>
gd (inb (μ2 122 0) 5) <| nm (μ2 13 (μ2 122 0).toNatClampNeg) fun x4 =>
if x4 = 0 then (
ca2 (f_M_emit (0 : Int32) (0 : Int32) μ2) fun x37 μ38 =>
ca2 (f_M_emit (15 : Int32) (0 : Int32) μ38) fun x40 μ41 =>
nm (st μ41 106 0 (0 : Int32)) fun μ42 =>
some μ42)
else (
jn (jn (fun (μ9 : St) =>
gd (inb (μ9 122 0) 5) <| nm (μ9 14 (μ9 122 0).toNatClampNeg) fun x13 =>
gd (inb x13 600) <| nm (st μ9 3 x13.toNatClampNeg (μ9 108 0)) fun μ15 =>
some μ15) fun k10 =>
if x4 = (3 : Int32) then (
gd (inb (μ2 122 0) 5) <| nm (μ2 15 (μ2 122 0).toNatClampNeg) fun x18 =>
ca2 (f_M_emit (14 : Int32) x18 μ2) fun x20 μ21 =>
k10 μ21)
else (
k10 μ2)) fun k7 =>
if x4 = (1 : Int32) then (
ca (f_M_token μ2) fun x24 =>
if x24 = (1 : Int32) then (
nm (st μ2 105 0 ((μ2 105 0) + (1 : Int32))) fun μ26 =>
ca2 (f_M_emit (14 : Int32) (0 : Int32) μ26) fun x28 μ29 =>
gd (inb (μ29 122 0) 5) <| nm (μ29 14 (μ29 122 0).toNatClampNeg) fun x31 =>
gd (inb x31 600) <| nm (st μ29 3 x31.toNatClampNeg (μ29 108 0)) fun μ33 =>
ca (f_M_begins (2 : Int32) x28 (0 : Int32) μ33) fun μ35 =>
some μ35)
else (
k7))
else (
k7))
def f_M_statement  (μ : St) : Option St :=
ca (f_M_token μ) fun x2 =>
if x2 = (9 : Int32) then (
ca (f_M_blockEnds μ) fun μ116 =>
some μ116)
else (
ca2 (f_M_emit (8 : Int32) (0 : Int32) μ) fun x5 μ6 =>
nm (st μ6 136 0 x5) fun μ7 =>
ca (f_M_in x2 (32 : Int32) (39 : Int32)) fun x9 =>
jn (fun (y13 : Int32) =>
nm (st μ7 135 0 y13) fun μ14 =>
ca (f_M_in x2 (32 : Int32) (39 : Int32)) fun x16 =>
jn (jn (fun (y23 : Int32) =>
nm (st μ14 134 0 y23) fun μ24 =>
nm (st μ24 105 0 ((μ24 105 0) + (1 : Int32))) fun μ25 =>
ca2 (f_M_must (12 : Int32) μ25) fun x27 μ28 =>
if x27 = 0 then (
some μ28)
else (
ca (f_M_worth (4 : Int32) μ28) fun μ31 =>
some μ31)) fun k21 =>
if (μ14 135 0) = (9 : Int32) then (
k21 (x2 - (32 : Int32)))
else (
k21 (x2 - (44 : Int32)))) fun k18 =>
if x16 = 0 then (
ca (f_M_in x2 (44 : Int32) (51 : Int32)) fun x35 =>
if x35 = 0 then (
ca (f_M_in x2 (40 : Int32) (43 : Int32)) fun x38 =>
if x38 = 0 then (
ca (f_M_in x2 (52 : Int32) (57 : Int32)) fun x41 =>
if x41 = 0 then (
jn (nm (st μ14 105 0 ((μ14 105 0) + (1 : Int32))) fun μ46 =>
ca2 (f_M_must (6 : Int32) μ46) fun x48 μ49 =>
if x48 = 0 then (
some μ49)
else (
jn (fun (y54 : Int32) =>
ca (f_M_worth y54 μ49) fun μ56 =>
some μ56) fun k52 =>
if x2 = 0 then (
k52 (5 : Int32))
else (
k52 (6 : Int32)))) fun k44 =>
if x2 = 0 then (
k44)
else (
if x2 = (2 : Int32) then (
k44)
else (
jn (nm (st μ14 105 0 ((μ14 105 0) + (1 : Int32))) fun μ63 =>
jn (fun (y67 : Int32) =>
ca (f_M_worth y67 μ63) fun μ69 =>
some μ69) fun k65 =>
if x2 = (3 : Int32) then (
k65 (7 : Int32))
else (
k65 (8 : Int32))) fun k61 =>
if x2 = (3 : Int32) then (
k61)
else (
if x2 = (4 : Int32) then (
k61)
else (
ca (f_M_wrong (1 : Int32) (μ14 105 0) μ14) fun μ74 =>
some μ74)))))
else (
ca2 (f_M_call μ14) fun x76 μ77 =>
ca2 (f_M_must (6 : Int32) μ77) fun x79 μ80 =>
if x79 = 0 then (
some μ80)
else (
ca (f_M_token μ80) fun x83 =>
jn (fun (μ84 : St) =>
some μ84) fun k85 =>
if x83 = (7 : Int32) then (
nm (st μ80 105 0 ((μ80 105 0) + (1 : Int32))) fun μ94 =>
ca (f_M_callEnds x76 μ94) fun μ96 =>
ca2 (f_M_emit (12 : Int32) (0 : Int32) μ96) fun x98 μ99 =>
ca2 (f_M_must (10 : Int32) μ99) fun x101 μ102 =>
k85 μ102)
else (
ca (f_M_worth (9 : Int32) μ80) fun μ89 =>
gd (inb (0 : Int32) 5) <| nm (st μ89 19 (0 : Int32).toNatClampNeg x76) fun μ91 =>
gd (inb x76 160) <| nm (st μ91 12 x76.toNatClampNeg (1 : Int32)) fun μ93 =>
k85 μ93))))
else (
nm (st μ14 134 0 (x2 - (40 : Int32))) fun μ103 =>
nm (st μ103 105 0 ((μ103 105 0) + (1 : Int32))) fun μ104 =>
ca2 (f_M_must (21 : Int32) μ104) fun x106 μ107 =>
if x106 = 0 then (
some μ107)
else (
ca (f_M_worth (3 : Int32) μ107) fun μ110 =>
some μ110)))
else (
k18))
else (
k18)) fun k11 =>
if x9 = 0 then (
ca (f_M_in x2 (44 : Int32) (51 : Int32)) fun x113 =>
if x113 = 0 then (
k11 (11 : Int32))
else (
k11 (10 : Int32)))
else (
k11 (9 : Int32)))
def f_M_piece  (μ : St) : Option St :=
ca (f_M_token μ) fun x2 =>
nm ((μ 126 0) - (1 : Int32)) fun x3 =>
gd (inb x3 5) <| nm (μ 17 x3.toNatClampNeg) fun x5 =>
jn (nm (st μ 106 0 (4 : Int32)) fun μ9 =>
ca (f_M_in x2 (64 : Int32) (191 : Int32)) fun x11 =>
if x11 = 0 then (
if x2 = (5 : Int32) then (
ca2 (f_M_emit (1 : Int32) (0 : Int32) μ9) fun x69 μ70 =>
nm (st μ70 105 0 ((μ70 105 0) + (1 : Int32))) fun μ71 =>
some μ71)
else (
ca (f_M_in x2 (32 : Int32) (39 : Int32)) fun x15 =>
jn (jn (fun (y22 : Int32) =>
jn (fun (y26 : Int32) =>
ca2 (f_M_emit y22 y26 μ9) fun x28 μ29 =>
nm (st μ29 105 0 ((μ29 105 0) + (1 : Int32))) fun μ30 =>
some μ30) fun k24 =>
if (40 : Int32) ≤ x2 then (
k24 (x2 - (44 : Int32)))
else (
k24 (x2 - (32 : Int32)))) fun k20 =>
if (40 : Int32) ≤ x2 then (
k20 (3 : Int32))
else (
k20 (2 : Int32))) fun k17 =>
if x15 = 0 then (
ca (f_M_in x2 (44 : Int32) (51 : Int32)) fun x35 =>
if x35 = 0 then (
ca (f_M_in x2 (40 : Int32) (43 : Int32)) fun x38 =>
if x38 = 0 then (
ca (f_M_in x2 (52 : Int32) (57 : Int32)) fun x41 =>
if x41 = 0 then (
if x2 = (6 : Int32) then (
nm (st μ9 105 0 ((μ9 105 0) + (1 : Int32))) fun μ46 =>
ca (f_M_enters (0 : Int32) (0 : Int32) μ46) fun μ48 =>
some μ48)
else (
ca (f_M_wrong (1 : Int32) (μ9 105 0) μ9) fun μ45 =>
some μ45))
else (
ca2 (f_M_call μ9) fun x50 μ51 =>
ca2 (f_M_must (6 : Int32) μ51) fun x53 μ54 =>
jn (fun (μ55 : St) =>
some μ55) fun k56 =>
if x53 = 0 then (
k56 μ54)
else (
ca (f_M_arguments x50 μ54) fun μ60 =>
k56 μ60)))
else (
nm (st μ9 105 0 ((μ9 105 0) + (1 : Int32))) fun μ61 =>
ca2 (f_M_must (21 : Int32) μ61) fun x63 μ64 =>
if x63 = 0 then (
some μ64)
else (
ca (f_M_enters (1 : Int32) (x2 - (40 : Int32)) μ64) fun μ67 =>
some μ67)))
else (
k17))
else (
k17)))
else (
ca2 (f_M_emit (0 : Int32) (x2 - (64 : Int32)) μ9) fun x73 μ74 =>
nm (st μ74 105 0 ((μ74 105 0) + (1 : Int32))) fun μ75 =>
some μ75)) fun k7 =>
if x5 = (-1 : Int32) then (
jn (jn (fun (y83 : Int32) =>
gd (inb x3 5) <| nm (st μ 17 x3.toNatClampNeg y83) fun μ85 =>
nm (st μ85 105 0 ((μ85 105 0) + (1 : Int32))) fun μ86 =>
some μ86) fun k81 =>
if x2 = (14 : Int32) then (
k81 (5 : Int32))
else (
k81 (6 : Int32))) fun k78 =>
if x2 = (14 : Int32) then (
k78)
else (
if x2 = (20 : Int32) then (
k78)
else (
k7)))
else (
k7)
def f_M_argumentEnds (a1 : Int32) (a2 : Int32) (μ : St) : Option St :=
ca (f_M_token μ) fun x2 =>
if x2 = (11 : Int32) then (
nm (st μ 105 0 ((μ 105 0) + (1 : Int32))) fun μ19 =>
gd (inb a2 160) <| nm (μ19 12 a2.toNatClampNeg) fun x21 =>
gd (inb a2 160) <| nm (st μ19 12 a2.toNatClampNeg (x21 + (1 : Int32))) fun μ23 =>
ca (f_M_fresh μ23) fun μ25 =>
some μ25)
else (
ca2 (f_M_must (7 : Int32) μ) fun x5 μ6 =>
if x5 = 0 then (
some μ6)
else (
ca (f_M_callEnds a2 μ6) fun μ9 =>
if a1 = (2 : Int32) then (
nm (st μ9 126 0 ((μ9 126 0) - (1 : Int32))) fun μ18 =>
some μ18)
else (
ca2 (f_M_emit (12 : Int32) (0 : Int32) μ9) fun x12 μ13 =>
nm (st μ13 106 0 (2 : Int32)) fun μ14 =>
ca2 (f_M_must (10 : Int32) μ14) fun x16 μ17 =>
some μ17)))
def f_M_valueEnds (a1 : Int32) (a2 : Int32) (μ : St) : Option St :=
if a1 = 0 then (
ca2 (f_M_must (7 : Int32) μ) fun x63 μ64 =>
if x63 = 0 then (
some μ64)
else (
nm (st μ64 126 0 ((μ64 126 0) - (1 : Int32))) fun μ66 =>
some μ66))
else (
if a1 = (1 : Int32) then (
ca2 (f_M_must (22 : Int32) μ) fun x55 μ56 =>
if x55 = 0 then (
some μ56)
else (
ca2 (f_M_emit (4 : Int32) a2 μ56) fun x59 μ60 =>
nm (st μ60 126 0 ((μ60 126 0) - (1 : Int32))) fun μ61 =>
some μ61))
else (
jn (ca (f_M_argumentEnds a1 a2 μ) fun μ7 =>
some μ7) fun k4 =>
if a1 = (2 : Int32) then (
k4)
else (
if a1 = (9 : Int32) then (
k4)
else (
if a1 = (3 : Int32) then (
ca2 (f_M_must (22 : Int32) μ) fun x45 μ46 =>
if x45 = 0 then (
some μ46)
else (
ca2 (f_M_must (12 : Int32) μ46) fun x49 μ50 =>
if x49 = 0 then (
some μ50)
else (
ca (f_M_worth (4 : Int32) μ50) fun μ53 =>
some μ53)))
else (
jn (ca2 (f_M_must (7 : Int32) μ) fun x15 μ16 =>
if x15 = 0 then (
some μ16)
else (
ca2 (f_M_emit (13 : Int32) (0 : Int32) μ16) fun x19 μ20 =>
jn (fun (y24 : Int32) =>
ca (f_M_begins y24 x19 (μ20 136 0) μ20) fun μ26 =>
some μ26) fun k22 =>
if a1 = (5 : Int32) then (
k22 (1 : Int32))
else (
k22 (3 : Int32)))) fun k12 =>
if a1 = (5 : Int32) then (
k12)
else (
if a1 = (6 : Int32) then (
k12)
else (
ca2 (f_M_must (10 : Int32) μ) fun x31 μ32 =>
if x31 = 0 then (
some μ32)
else (
jn (fun (y37 : Int32) =>
ca2 (f_M_emit y37 (μ32 134 0) μ32) fun x39 μ40 =>
nm (st μ40 106 0 (2 : Int32)) fun μ41 =>
some μ41) fun k35 =>
if a1 = (4 : Int32) then (
k35 (μ32 135 0))
else (
if a1 = (7 : Int32) then (
k35 (15 : Int32))
else (
k35 (16 : Int32)))))))))))
def f_M_behind (N : Nat)  (μ : St) : Option St :=
nm ((μ 126 0) - (1 : Int32)) fun x1 =>
gd (inb x1 5) <| nm (μ 17 x1.toNatClampNeg) fun x3 =>
jn (fun (μ4 : St) =>
ca (f_M_token μ4) fun x8 =>
ca (f_M_levelOf x8) fun x10 =>
jn (fun (y14 : Int32) =>
ca (f_M_reduce N y14 μ4) fun μ16 =>
jn (fun (y20 : Int32) =>
jn (if y20 = 0 then (
gd (inb x1 5) <| nm (μ16 16 x1.toNatClampNeg) fun x26 =>
gd (inb x1 5) <| nm (μ16 19 x1.toNatClampNeg) fun x28 =>
ca (f_M_valueEnds x26 x28 μ16) fun μ30 =>
some μ30)
else (
ca (f_M_wrong (1 : Int32) (μ16 105 0) μ16) fun μ32 =>
some μ32)) fun k22 =>
if x10 ≤ 0 then (
k22)
else (
if y20 = 0 then (
ca (f_M_token μ16) fun x36 =>
gd (inb (μ16 131 0) 64) <| nm (st μ16 20 (μ16 131 0).toNatClampNeg x36) fun μ38 =>
gd (inb (μ38 131 0) 64) <| nm (st μ38 21 (μ38 131 0).toNatClampNeg x10) fun μ40 =>
nm (st μ40 131 0 ((μ40 131 0) + (1 : Int32))) fun μ41 =>
nm (st μ41 105 0 ((μ41 105 0) + (1 : Int32))) fun μ42 =>
nm (st μ42 106 0 (3 : Int32)) fun μ43 =>
some μ43)
else (
k22))) fun k18 =>
jn (k18 (0 : Int32)) fun k45 =>
if x10 = (1 : Int32) then (
gd (inb x1 5) <| nm (μ16 18 x1.toNatClampNeg) fun x49 =>
if (μ16 131 0) ≤ x49 then (
k45)
else (
gd (inb ((μ16 131 0) - (1 : Int32)) 64) <| nm (μ16 21 ((μ16 131 0) - (1 : Int32)).toNatClampNeg) fun x52 =>
if x52 = (1 : Int32) then (
k18 (1 : Int32))
else (
k45)))
else (
k45)) fun k12 =>
if x10 = 0 then (
k12 (1 : Int32))
else (
if x10 = (1 : Int32) then (
k12 (2 : Int32))
else (
k12 x10))) fun k5 =>
if x3 = (-1 : Int32) then (
k5 μ)
else (
gd (inb x1 5) <| nm (μ 17 x1.toNatClampNeg) fun x58 =>
ca2 (f_M_emit x58 (0 : Int32) μ) fun x60 μ61 =>
gd (inb x1 5) <| nm (st μ61 17 x1.toNatClampNeg (-1 : Int32)) fun μ63 =>
k5 μ63)
def f_M_function  (μ : St) : Option St :=
ca (f_M_token μ) fun x2 =>
if x2 = (-1 : Int32) then (
nm (st μ 107 0 (1 : Int32)) fun μ38 =>
some μ38)
else (
ca2 (f_M_must (23 : Int32) μ) fun x5 μ6 =>
if x5 = 0 then (
some μ6)
else (
ca (f_M_token μ6) fun x9 =>
nm (x9 - (52 : Int32)) fun x10 =>
ca (f_M_in x10 (0 : Int32) (5 : Int32)) fun x12 =>
if x12 = 0 then (
ca (f_M_wrong (1 : Int32) (μ6 105 0) μ6) fun μ37 =>
some μ37)
else (
gd (inb x10 6) <| nm (μ6 6 x10.toNatClampNeg) fun x15 =>
if x15 < 0 then (
nm (st μ6 105 0 ((μ6 105 0) + (1 : Int32))) fun μ17 =>
ca (f_M_token μ17) fun x19 =>
ca (f_M_in x19 (64 : Int32) (67 : Int32)) fun x21 =>
if x21 = 0 then (
ca (f_M_wrong (1 : Int32) (μ17 105 0) μ17) fun μ33 =>
some μ33)
else (
gd (inb x10 6) <| nm (st μ17 6 x10.toNatClampNeg (μ17 108 0)) fun μ24 =>
ca (f_M_token μ24) fun x26 =>
gd (inb x10 6) <| nm (st μ24 7 x10.toNatClampNeg (x26 - (64 : Int32))) fun μ28 =>
nm (st μ28 105 0 ((μ28 105 0) + (1 : Int32))) fun μ29 =>
ca (f_M_begins (0 : Int32) (0 : Int32) (0 : Int32) μ29) fun μ31 =>
some μ31))
else (
ca (f_M_wrong (2 : Int32) (μ6 105 0) μ6) fun μ35 =>
some μ35))))
def f_M_readText (N : Nat)  (μ : St) : Option St :=
nm (st μ 103 0 (0 : Int32)) fun μ1 =>
nm (st μ1 105 0 (0 : Int32)) fun μ2 =>
nm (st μ2 106 0 (0 : Int32)) fun μ3 =>
nm (st μ3 107 0 (0 : Int32)) fun μ4 =>
nm (st μ4 108 0 (0 : Int32)) fun μ5 =>
nm (st μ5 118 0 (0 : Int32)) fun μ6 =>
nm (st μ6 122 0 (0 : Int32)) fun μ7 =>
lpk (fun (k10 : Int32 → St → Option St) (x8 : Int32) (μ9 : St) =>
if (6 : Int32) ≤ x8 then (
lpk (fun (k15 : Int32 → St → Option St) (x13 : Int32) (μ14 : St) =>
jn (lpk (fun (k22 : Int32 → St → Option St) (x20 : Int32) (μ21 : St) =>
jn (gd (inb (0 : Int32) 6) <| nm (μ21 6 (0 : Int32).toNatClampNeg) fun x28 =>
jn (ca (f_M_wrong (6 : Int32) (μ21 101 0) μ21) fun μ33 =>
some μ33) fun k30 =>
if x28 < 0 then (
k30)
else (
gd (inb (0 : Int32) 6) <| nm (μ21 7 (0 : Int32).toNatClampNeg) fun x36 =>
if x36 ≤ 0 then (
some μ21)
else (
k30))) fun k25 =>
if (μ21 118 0) ≤ x20 then (
k25)
else (
if (μ21 103 0) = 0 then (
gd (inb x20 160) <| nm (μ21 11 x20.toNatClampNeg) fun x41 =>
gd (inb x41 6) <| nm (μ21 6 x41.toNatClampNeg) fun x43 =>
jn (fun (y47 : Int32) =>
jn (fun (μ48 : St) =>
nm (x20 + (1 : Int32)) fun x51 =>
k22 x51 μ48) fun k49 =>
jn (jn (fun (y58 : Int32) =>
gd (inb x20 160) <| nm (μ21 10 x20.toNatClampNeg) fun x60 =>
ca (f_M_wrong y58 x60 μ21) fun μ62 =>
k49 μ62) fun k56 =>
if y47 = 0 then (
k56 (4 : Int32))
else (
k56 (5 : Int32))) fun k53 =>
if y47 = 0 then (
k53)
else (
gd (inb x20 160) <| nm (μ21 11 x20.toNatClampNeg) fun x66 =>
gd (inb x66 6) <| nm (μ21 7 x66.toNatClampNeg) fun x68 =>
gd (inb x20 160) <| nm (μ21 12 x20.toNatClampNeg) fun x70 =>
if x68 = x70 then (
k49 μ21)
else (
k53))) fun k45 =>
if x43 < 0 then (
k45 (0 : Int32))
else (
k45 (1 : Int32)))
else (
k25))) (fun _ _ => none) N (0 : Int32) μ14) fun k18 =>
if (2000 : Int32) ≤ x13 then (
k18)
else (
if (μ14 103 0) = 0 then (
if (μ14 107 0) = 0 then (
jn (fun (μ76 : St) =>
nm (x13 + (1 : Int32)) fun x79 =>
k15 x79 μ76) fun k77 =>
if (μ14 106 0) = 0 then (
ca (f_M_function μ14) fun μ96 =>
k77 μ96)
else (
if (μ14 106 0) = (1 : Int32) then (
ca2 (f_M_must (8 : Int32) μ14) fun x91 μ92 =>
if x91 = 0 then (
k77 μ92)
else (
nm (st μ92 106 0 (2 : Int32)) fun μ94 =>
k77 μ94))
else (
if (μ14 106 0) = (2 : Int32) then (
ca (f_M_statement μ14) fun μ89 =>
k77 μ89)
else (
if (μ14 106 0) = (3 : Int32) then (
ca (f_M_piece μ14) fun μ87 =>
k77 μ87)
else (
ca (f_M_behind N μ14) fun μ85 =>
k77 μ85)))))
else (
k18))
else (
k18))) (fun _ _ => none) N (0 : Int32) μ9)
else (
gd (inb x8 6) <| nm (st μ9 6 x8.toNatClampNeg (-1 : Int32)) fun μ98 =>
gd (inb x8 6) <| nm (st μ98 7 x8.toNatClampNeg (0 : Int32)) fun μ100 =>
nm (x8 + (1 : Int32)) fun x101 =>
k10 x101 μ100)) (fun _ _ => none) N (0 : Int32) μ7
def f_M_nothing (N : Nat)  (μ : St) : Option St :=
lpk (fun (k3 : Int32 → St → Option St) (x1 : Int32) (μ2 : St) =>
if (8 : Int32) ≤ x1 then (
lpk (fun (k8 : Int32 → St → Option St) (x6 : Int32) (μ7 : St) =>
if (32 : Int32) ≤ x6 then (
nm (st μ7 139 0 (0 : Int32)) fun μ11 =>
nm (st μ11 141 0 (0 : Int32)) fun μ12 =>
nm (st μ12 146 0 (0 : Int32)) fun μ13 =>
nm (st μ13 147 0 (0 : Int32)) fun μ14 =>
some μ14)
else (
gd (inb x6 32) <| nm (st μ7 23 x6.toNatClampNeg (0 : Int32)) fun μ16 =>
nm (x6 + (1 : Int32)) fun x17 =>
k8 x17 μ16)) (fun _ _ => none) N (0 : Int32) μ2)
else (
gd (inb x1 8) <| nm (st μ2 22 x1.toNatClampNeg (0 : Int32)) fun μ19 =>
nm (x1 + (1 : Int32)) fun x20 =>
k3 x20 μ19)) (fun _ _ => none) N (0 : Int32) μ
def f_M_enter (N : Nat) (a1 : Int32) (a2 : Int32) (μ : St) : Option St :=
gd (inb (μ 146 0) 10) <| nm (st μ 27 (μ 146 0).toNatClampNeg a2) fun μ2 =>
gd (inb (μ2 146 0) 10) <| nm (st μ2 28 (μ2 146 0).toNatClampNeg (μ2 147 0)) fun μ4 =>
lpk (fun (k7 : Int32 → St → Option St) (x5 : Int32) (μ6 : St) =>
if (8 : Int32) ≤ x5 then (
nm (st μ6 146 0 ((μ6 146 0) + (1 : Int32))) fun μ10 =>
gd (inb a1 6) <| nm (μ10 8 a1.toNatClampNeg) fun x12 =>
nm (st μ10 138 0 x12) fun μ13 =>
some μ13)
else (
gd (inb (((8 : Int32) * (μ6 146 0)) + x5) 80) <| nm (st μ6 26 (((8 : Int32) * (μ6 146 0)) + x5).toNatClampNeg (0 : Int32)) fun μ15 =>
nm (x5 + (1 : Int32)) fun x16 =>
k7 x16 μ15)) (fun _ _ => none) N (0 : Int32) μ4
def f_M_compile (N : Nat)  (μ : St) : Option (Int32 × St) :=
nm (st μ 100 0 (0 : Int32)) fun μ1 =>
ca (f_M_readText N μ1) fun μ3 =>
nm (st μ3 101 0 (0 : Int32)) fun μ4 =>
if (μ4 103 0) ≤ 0 then (
nm (st μ4 117 0 (0 : Int32)) fun μ6 =>
lpk (fun (k9 : Int32 → St → Option (Int32 × St)) (x7 : Int32) (μ8 : St) =>
if (6 : Int32) ≤ x7 then (
lpk (fun (k14 : Int32 → St → Option (Int32 × St)) (x12 : Int32) (μ13 : St) =>
if (μ13 108 0) ≤ x12 then (
nm (st μ13 137 0 (0 : Int32)) fun μ17 =>
ca (f_M_nothing N μ17) fun μ19 =>
some (μ19 117 0, μ19))
else (
gd (inb x12 600) <| nm (μ13 2 x12.toNatClampNeg) fun x21 =>
gd (inb x12 600) <| nm (st μ13 4 x12.toNatClampNeg x21) fun μ23 =>
gd (inb x12 600) <| nm (μ23 2 x12.toNatClampNeg) fun x25 =>
jn (fun (y29 : Int32) =>
gd (inb x12 600) <| nm (st μ23 5 x12.toNatClampNeg y29) fun μ31 =>
nm (x12 + (1 : Int32)) fun x32 =>
k14 x32 μ31) fun k27 =>
if x25 = (7 : Int32) then (
gd (inb x12 600) <| nm (μ23 3 x12.toNatClampNeg) fun x37 =>
gd (inb x37 160) <| nm (μ23 11 x37.toNatClampNeg) fun x39 =>
k27 x39)
else (
gd (inb x12 600) <| nm (μ23 3 x12.toNatClampNeg) fun x35 =>
k27 x35))) (fun _ _ => none) N (0 : Int32) μ8)
else (
gd (inb x7 6) <| nm (μ8 6 x7.toNatClampNeg) fun x41 =>
gd (inb x7 6) <| nm (st μ8 8 x7.toNatClampNeg x41) fun μ43 =>
gd (inb x7 6) <| nm (μ43 7 x7.toNatClampNeg) fun x45 =>
gd (inb x7 6) <| nm (st μ43 9 x7.toNatClampNeg x45) fun μ47 =>
gd (inb x7 6) <| nm (μ47 8 x7.toNatClampNeg) fun x49 =>
jn (fun (y53 : Int32) =>
nm (st μ47 117 0 ((μ47 117 0) + y53)) fun μ54 =>
nm (x7 + (1 : Int32)) fun x55 =>
k9 x55 μ54) fun k51 =>
if x49 < 0 then (
k51 (0 : Int32))
else (
k51 (1 : Int32)))) (fun _ _ => none) N (0 : Int32) μ6)
else (
some (((-1000 : Int32) * (μ4 103 0)) - (μ4 104 0), μ4))
def f_M_start (N : Nat)  (μ : St) : Option (Int32 × St) :=
jn (fun (y4 : Int32) =>
nm (st μ 100 0 y4) fun μ5 =>
if (μ5 100 0) ≤ 0 then (
ca (f_M_nothing N μ5) fun μ8 =>
ca (f_M_enter N (0 : Int32) (0 : Int32) μ8) fun μ10 =>
nm (st μ10 137 0 (1 : Int32)) fun μ11 =>
some ((1 : Int32), μ11))
else (
some ((0 : Int32), μ5))) fun k2 =>
if (μ 117 0) = 0 then (
k2 (1 : Int32))
else (
k2 (0 : Int32))
def f_M_key (a1 : Int32) (μ : St) : Option (Int32 × St) :=
jn (fun (y4 : Int32) =>
nm (st μ 100 0 y4) fun μ5 =>
if (μ5 100 0) = 0 then (
gd (inb (μ5 140 0) 8) <| nm (st μ5 24 (μ5 140 0).toNatClampNeg a1) fun μ8 =>
nm (st μ8 140 0 ((μ8 140 0) + (1 : Int32))) fun μ9 =>
some (μ9 140 0, μ9))
else (
some (μ5 140 0, μ5))) fun k2 =>
jn (k2 (1 : Int32)) fun k11 =>
if a1 < (-32768 : Int32) then (
k11)
else (
if a1 ≤ (32767 : Int32) then (
if (μ 140 0) = (8 : Int32) then (
k2 (2 : Int32))
else (
k2 (0 : Int32)))
else (
k11))
def f_M_reads (N : Nat)  (μ : St) : Option St :=
if (μ 140 0) = 0 then (
nm (st μ 137 0 (2 : Int32)) fun μ17 =>
nm (st μ17 138 0 ((μ17 138 0) - (1 : Int32))) fun μ18 =>
some μ18)
else (
gd (inb (0 : Int32) 8) <| nm (μ 24 (0 : Int32).toNatClampNeg) fun x3 =>
ca (f_M_push x3 μ) fun μ5 =>
nm (st μ5 140 0 ((μ5 140 0) - (1 : Int32))) fun μ6 =>
lpk (fun (k9 : Int32 → St → Option St) (x7 : Int32) (μ8 : St) =>
if (μ8 140 0) ≤ x7 then (
some μ8)
else (
gd (inb (x7 + (1 : Int32)) 8) <| nm (μ8 24 (x7 + (1 : Int32)).toNatClampNeg) fun x13 =>
gd (inb x7 8) <| nm (st μ8 24 x7.toNatClampNeg x13) fun μ15 =>
nm (x7 + (1 : Int32)) fun x16 =>
k9 x16 μ15)) (fun _ _ => none) N (0 : Int32) μ6)
def f_M_operates (a1 : Int32) (μ : St) : Option St :=
ca2 (f_M_pop μ) fun x2 μ3 =>
ca2 (f_M_pop μ3) fun x5 μ6 =>
jn (jn (fun (y13 : Int32) =>
ca (f_M_push y13 μ6) fun μ15 =>
some μ15) fun k11 =>
if a1 = (13 : Int32) then (
k11 (x5 + x2))
else (
if a1 = (14 : Int32) then (
k11 (x5 - x2))
else (
if a1 = (15 : Int32) then (
k11 (x5 * x2))
else (
if a1 = (16 : Int32) then (
gd (nz x2) <|
k11 (x5 / x2))
else (
if a1 = (17 : Int32) then (
gd (nz x2) <|
k11 (x5 - x5 / x2 * x2))
else (
if a1 = (18 : Int32) then (
if x2 ≤ x5 then (
k11 (0 : Int32))
else (
k11 (1 : Int32)))
else (
if x5 = x2 then (
k11 (1 : Int32))
else (
k11 (0 : Int32))))))))) fun k8 =>
jn (if x2 = 0 then (
nm (st μ6 137 0 (4 : Int32)) fun μ30 =>
some μ30)
else (
k8)) fun k27 =>
if a1 = (16 : Int32) then (
k27)
else (
if a1 = (17 : Int32) then (
k27)
else (
k8))
def f_M_calls (N : Nat) (a1 : Int32) (μ : St) : Option St :=
if (μ 146 0) = (10 : Int32) then (
nm (st μ 137 0 (6 : Int32)) fun μ18 =>
some μ18)
else (
gd (inb a1 6) <| nm (μ 9 a1.toNatClampNeg) fun x3 =>
nm ((μ 147 0) - x3) fun x4 =>
nm (st μ 147 0 x4) fun μ5 =>
ca (f_M_enter N a1 (μ5 138 0) μ5) fun μ7 =>
lpk (fun (k10 : Int32 → St → Option St) (x8 : Int32) (μ9 : St) =>
if x3 ≤ x8 then (
some μ9)
else (
gd (inb (x4 + x8) 1000) <| nm (μ9 29 (x4 + x8).toNatClampNeg) fun x14 =>
gd (inb (((8 : Int32) * ((μ9 146 0) - (1 : Int32))) + x8) 80) <| nm (st μ9 26 (((8 : Int32) * ((μ9 146 0) - (1 : Int32))) + x8).toNatClampNeg x14) fun μ16 =>
nm (x8 + (1 : Int32)) fun x17 =>
k10 x17 μ16)) (fun _ _ => none) N (0 : Int32) μ7)
def f_M_returns  (μ : St) : Option St :=
ca2 (f_M_pop μ) fun x2 μ3 =>
nm (st μ3 146 0 ((μ3 146 0) - (1 : Int32))) fun μ4 =>
gd (inb (μ4 146 0) 10) <| nm (μ4 28 (μ4 146 0).toNatClampNeg) fun x6 =>
nm (st μ4 147 0 x6) fun μ7 =>
if (μ7 146 0) = 0 then (
nm (st μ7 137 0 (3 : Int32)) fun μ14 =>
some μ14)
else (
gd (inb (μ7 146 0) 10) <| nm (μ7 27 (μ7 146 0).toNatClampNeg) fun x10 =>
nm (st μ7 138 0 x10) fun μ11 =>
ca (f_M_push x2 μ11) fun μ13 =>
some μ13)
def f_M_place (a1 : Int32) (a2 : Int32) (μ : St) : Option St :=
jn (fun (y4 : Int32) (μ1 : St) =>
ca2 (f_M_pop μ1) fun x6 μ7 =>
jn (nm (st μ7 137 0 (5 : Int32)) fun μ11 =>
some μ11) fun k9 =>
if x6 < 0 then (
k9)
else (
if x6 ≤ (7 : Int32) then (
if a2 = 0 then (
gd (inb (((8 : Int32) * a1) + x6) 32) <| nm (μ7 23 (((8 : Int32) * a1) + x6).toNatClampNeg) fun x16 =>
ca (f_M_push x16 μ7) fun μ18 =>
some μ18)
else (
gd (inb (((8 : Int32) * a1) + x6) 32) <| nm (st μ7 23 (((8 : Int32) * a1) + x6).toNatClampNeg y4) fun μ20 =>
some μ20))
else (
k9))) fun k2 =>
if a2 = 0 then (
k2 (0 : Int32) μ)
else (
ca2 (f_M_pop μ) fun x23 μ24 =>
k2 x23 μ24)
def f_M_prints  (μ : St) : Option St :=
gd (nz (32 : Int32)) <|
ca2 (f_M_pop μ) fun x3 μ4 =>
gd (inb ((μ 139 0) - (μ 139 0) / (32 : Int32) * (32 : Int32)) 32) <| nm (st μ4 25 ((μ 139 0) - (μ 139 0) / (32 : Int32) * (32 : Int32)).toNatClampNeg x3) fun μ6 =>
nm (st μ6 139 0 ((μ6 139 0) + (1 : Int32))) fun μ7 =>
some μ7
def f_M_does (N : Nat) (a1 : Int32) (a2 : Int32) (μ : St) : Option St :=
nm ((8 : Int32) * ((μ 146 0) - (1 : Int32))) fun x1 =>
if a1 = (0 : Int32) then (
ca (f_M_push a2 μ) fun μ4 =>
some μ4)
else (
if a1 = (1 : Int32) then (
ca (f_M_reads N μ) fun μ7 =>
some μ7)
else (
if a1 = (2 : Int32) then (
gd (inb a2 8) <| nm (μ 22 a2.toNatClampNeg) fun x10 =>
ca (f_M_push x10 μ) fun μ12 =>
some μ12)
else (
if a1 = (3 : Int32) then (
gd (inb (x1 + a2) 80) <| nm (μ 26 (x1 + a2).toNatClampNeg) fun x15 =>
ca (f_M_push x15 μ) fun μ17 =>
some μ17)
else (
if a1 = (4 : Int32) then (
ca (f_M_place a2 (0 : Int32) μ) fun μ20 =>
some μ20)
else (
if a1 = (5 : Int32) then (
ca2 (f_M_pop μ) fun x23 μ24 =>
ca (f_M_push (-x23) μ24) fun μ26 =>
some μ26)
else (
if a1 = (6 : Int32) then (
ca2 (f_M_pop μ) fun x29 μ30 =>
jn (fun (y34 : Int32) =>
ca (f_M_push y34 μ30) fun μ36 =>
some μ36) fun k32 =>
if x29 = 0 then (
k32 (1 : Int32))
else (
k32 (0 : Int32)))
else (
if a1 = (7 : Int32) then (
ca (f_M_calls N a2 μ) fun μ40 =>
some μ40)
else (
if a1 = (9 : Int32) then (
ca2 (f_M_pop μ) fun x43 μ44 =>
gd (inb a2 8) <| nm (st μ44 22 a2.toNatClampNeg x43) fun μ46 =>
some μ46)
else (
if a1 = (10 : Int32) then (
ca2 (f_M_pop μ) fun x49 μ50 =>
gd (inb (x1 + a2) 80) <| nm (st μ50 26 (x1 + a2).toNatClampNeg x49) fun μ52 =>
some μ52)
else (
if a1 = (11 : Int32) then (
ca (f_M_place a2 (1 : Int32) μ) fun μ55 =>
some μ55)
else (
if a1 = (12 : Int32) then (
ca2 (f_M_pop μ) fun x58 μ59 =>
some μ59)
else (
if a1 = (13 : Int32) then (
ca2 (f_M_pop μ) fun x62 μ63 =>
jn (fun (y67 : Int32) =>
nm (st μ63 138 0 y67) fun μ68 =>
some μ68) fun k65 =>
if x62 = 0 then (
k65 a2)
else (
k65 (μ63 138 0)))
else (
if a1 = (14 : Int32) then (
nm (st μ 138 0 a2) fun μ71 =>
some μ71)
else (
if a1 = (15 : Int32) then (
ca (f_M_returns μ) fun μ74 =>
some μ74)
else (
if a1 = (16 : Int32) then (
ca (f_M_prints μ) fun μ77 =>
some μ77)
else (
ca (f_M_operates (a1 - (20 : Int32)) μ) fun μ79 =>
some μ79))))))))))))))))
def f_M_run (N : Nat) (a1 : Int32) (μ : St) : Option (Int32 × St) :=
jn (fun (y4 : Int32) =>
nm (st μ 100 0 y4) fun μ5 =>
if (μ5 100 0) ≤ 0 then (
jn (fun (y10 : Int32) =>
nm (st μ5 137 0 y10) fun μ11 =>
lpk (fun (k15 : Int32 → Int32 → St → Option (Int32 × St)) (x12 : Int32) (x13 : Int32) (μ14 : St) =>
if (μ14 137 0) = (1 : Int32) then (
if x13 = 0 then (
some (μ14 137 0, μ14))
else (
gd (inb (μ14 138 0) 600) <| nm (μ14 4 (μ14 138 0).toNatClampNeg) fun x20 =>
if x20 = (8 : Int32) then (
jn (fun (y32 : Int32) =>
nm (x12 + (1 : Int32)) fun x33 =>
jn (fun (y37 : Int32) =>
nm (st μ14 141 0 ((μ14 141 0) + y37)) fun μ38 =>
jn (fun (y42 : Int32) =>
nm (st μ38 138 0 ((μ38 138 0) + y42)) fun μ43 =>
k15 x33 y32 μ43) fun k40 =>
if y32 = 0 then (
k40 (0 : Int32))
else (
k40 (1 : Int32))) fun k35 =>
if y32 = 0 then (
k35 (0 : Int32))
else (
k35 (1 : Int32))) fun k30 =>
if a1 ≤ x12 then (
k30 (0 : Int32))
else (
k30 (1 : Int32)))
else (
nm (st μ14 138 0 ((μ14 138 0) + (1 : Int32))) fun μ22 =>
gd (inb ((μ22 138 0) - (1 : Int32)) 600) <| nm (μ22 4 ((μ22 138 0) - (1 : Int32)).toNatClampNeg) fun x24 =>
gd (inb ((μ22 138 0) - (1 : Int32)) 600) <| nm (μ22 5 ((μ22 138 0) - (1 : Int32)).toNatClampNeg) fun x26 =>
ca (f_M_does N x24 x26 μ22) fun μ28 =>
k15 x12 x13 μ28)))
else (
some (μ14 137 0, μ14))) (fun _ _ _ => none) N (0 : Int32) (1 : Int32) μ11) fun k8 =>
jn (k8 (μ5 137 0)) fun k48 =>
if (μ5 137 0) = (2 : Int32) then (
if (μ5 140 0) ≤ 0 then (
k48)
else (
k8 (1 : Int32)))
else (
k48))
else (
some ((0 : Int32), μ5))) fun k2 =>
jn (k2 (1 : Int32)) fun k53 =>
if a1 < (1 : Int32) then (
k53)
else (
if a1 ≤ (200 : Int32) then (
if (μ 137 0) = 0 then (
k2 (2 : Int32))
else (
k2 (0 : Int32)))
else (
k53))
def f_M_words (N : Nat) (a1 : Int32) (a2 : Int32) (μ : St) : Option (Int32 × St) :=
jn (fun (y4 : Int32) =>
lpk (fun (k8 : Int32 → Int32 → Option (Int32 × St)) (x5 : Int32) (x6 : Int32) =>
jn (jn (fun (y16 : Int32) =>
nm (st μ 100 0 y16) fun μ17 =>
nm (a2 - (1 : Int32)) fun x18 =>
lpk (fun (k21 : Int32 → St → Option (Int32 × St)) (x19 : Int32) (μ20 : St) =>
if x19 < 0 then (
some (μ20 101 0, μ20))
else (
if (μ20 100 0) = 0 then (
gd (inb (μ20 101 0) 161) <| nm (st μ20 1 (μ20 101 0).toNatClampNeg ((a1 >>> (((8 : Int32) * x19) &&& 31)) &&& (255 : Int32))) fun μ26 =>
nm (st μ26 101 0 ((μ26 101 0) + (1 : Int32))) fun μ27 =>
nm (x19 + (-1 : Int32)) fun x28 =>
k21 x28 μ27)
else (
some (μ20 101 0, μ20)))) (fun _ _ => none) N x18 μ17) fun k14 =>
if x5 = 0 then (
k14 (1 : Int32))
else (
if ((μ 101 0) + a2) ≤ (160 : Int32) then (
k14 (0 : Int32))
else (
k14 (2 : Int32)))) fun k11 =>
if a2 ≤ x6 then (
k11)
else (
if x5 = 0 then (
k11)
else (
jn (fun (y36 : Int32) =>
nm (x6 + (1 : Int32)) fun x37 =>
k8 y36 x37) fun k34 =>
if (191 : Int32) < ((a1 >>> (((8 : Int32) * x6) &&& 31)) &&& (255 : Int32)) then (
k34 (0 : Int32))
else (
k34 (1 : Int32))))) (fun _ _ => none) N y4 (0 : Int32)) fun k2 =>
jn (k2 (0 : Int32)) fun k40 =>
if a2 < (1 : Int32) then (
k40)
else (
if (4 : Int32) < a2 then (
k40)
else (
k2 (1 : Int32)))
def f_M_shown (a1 : Int32) (μ : St) : Option (Int32 × St) :=
jn (fun (y4 : Int32) =>
nm (st μ 100 0 y4) fun μ5 =>
if (μ5 100 0) ≤ 0 then (
gd (nz (32 : Int32)) <|
gd (inb ((((μ5 139 0) - (1 : Int32)) - a1) - (((μ5 139 0) - (1 : Int32)) - a1) / (32 : Int32) * (32 : Int32)) 32) <| nm (μ5 25 ((((μ5 139 0) - (1 : Int32)) - a1) - (((μ5 139 0) - (1 : Int32)) - a1) / (32 : Int32) * (32 : Int32)).toNatClampNeg) fun x9 =>
some (x9, μ5))
else (
some ((0 : Int32), μ5))) fun k2 =>
jn (k2 (1 : Int32)) fun k11 =>
if a1 < 0 then (
k11)
else (
if (μ 139 0) ≤ a1 then (
k11)
else (
if a1 < (32 : Int32) then (
k2 (0 : Int32))
else (
k11)))
def f_M_global (a1 : Int32) (μ : St) : Option (Int32 × St) :=
jn (fun (y4 : Int32) =>
nm (st μ 100 0 y4) fun μ5 =>
if (μ5 100 0) ≤ 0 then (
gd (inb a1 8) <| nm (μ5 22 a1.toNatClampNeg) fun x8 =>
some (x8, μ5))
else (
some ((0 : Int32), μ5))) fun k2 =>
jn (k2 (1 : Int32)) fun k10 =>
if a1 < 0 then (
k10)
else (
if a1 ≤ (7 : Int32) then (
k2 (0 : Int32))
else (
k10))
def f_M_array (a1 : Int32) (a2 : Int32) (μ : St) : Option (Int32 × St) :=
jn (fun (y4 : Int32) =>
nm (st μ 100 0 y4) fun μ5 =>
if (μ5 100 0) ≤ 0 then (
gd (inb (((8 : Int32) * a1) + a2) 32) <| nm (μ5 23 (((8 : Int32) * a1) + a2).toNatClampNeg) fun x8 =>
some (x8, μ5))
else (
some ((0 : Int32), μ5))) fun k2 =>
jn (k2 (1 : Int32)) fun k10 =>
if a1 < 0 then (
k10)
else (
if (3 : Int32) < a1 then (
k10)
else (
if a2 < 0 then (
k10)
else (
if a2 ≤ (7 : Int32) then (
k2 (0 : Int32))
else (
k10))))
def f_M_about (a1 : Int32) (μ : St) : Option (Int32 × St) :=
nm (st μ 100 0 (0 : Int32)) fun μ1 =>
if a1 = (0 : Int32) then (
some (μ1 137 0, μ1))
else (
if a1 = (1 : Int32) then (
some (μ1 101 0, μ1))
else (
if a1 = (2 : Int32) then (
some (μ1 117 0, μ1))
else (
if a1 = (3 : Int32) then (
some (μ1 141 0, μ1))
else (
if a1 = (4 : Int32) then (
some (μ1 139 0, μ1))
else (
if a1 = (5 : Int32) then (
some (μ1 140 0, μ1))
else (
if a1 = (6 : Int32) then (
some (μ1 146 0, μ1))
else (
some ((-1 : Int32), μ1))))))))
end
section
/-! the reference: contracts -/
set_option maxHeartbeats 4000000 in
set_option maxRecDepth 100000 in
theorem c_M_thrown (l : Launch) (D : va_G) (cI : ClassId) (ρ : Nat → Nat) (hgt : Nat) (hh : 1 ≤ hgt)  {μ : St} {r : Int32} (h : f_M_thrown μ = some r) : CI l yX6_thrown cX6_thrown 1 (some .int) hgt TM cI D ρ [.ref (ρ 0)] μ r μ := by
  obtain ⟨g, rfl⟩ : ∃ g, hgt = g + 1 := ⟨hgt - 1, by omega⟩
  unfold f_M_thrown at h
  refine CI_of (own := RX6) (by decide) rfl (Nat.le_of_ble_eq_true rfl) rfl ?_
  intro p e s m args below meth c Q A H locs X hI hend ls hl
  have hx := X.1.1
  have hb := X.1.2.1
  have hl : lv_has ls 1 [(0, .ref (ρ 0))] := hl
  refine lv_aload_n hx hb dX6_thrown_0 rfl (lv_at hl 0 rfl) ?_
  refine rg_get X hI (o := 0) (j := 0) (k := 100) rfl rfl rfl inG6 (by decide) rfl wF_X6_97 dX6_thrown_1 ?_
  cases h
  exact hend H locs _ _ hI dX6_thrown_4
set_option maxHeartbeats 4000000 in
set_option maxRecDepth 100000 in
theorem c_M_token (l : Launch) (D : va_G) (cI : ClassId) (ρ : Nat → Nat) (hgt : Nat) (hh : 1 ≤ hgt)  {μ : St} {r : Int32} (h : f_M_token μ = some r) : CI l yX6_token cX6_token 1 (some .int) hgt TM cI D ρ [.ref (ρ 0)] μ r μ := by
  obtain ⟨g, rfl⟩ : ∃ g, hgt = g + 1 := ⟨hgt - 1, by omega⟩
  unfold f_M_token at h
  refine CI_of (own := RX6) (by decide) rfl (Nat.le_of_ble_eq_true rfl) rfl ?_
  intro p e s m args below meth c Q A H locs X hI hend ls hl
  have hx := X.1.1
  have hb := X.1.2.1
  have hl : lv_has ls 1 [(0, .ref (ρ 0))] := hl
  refine lv_aload_n hx hb dX6_token_0 rfl (lv_at hl 0 rfl) ?_
  refine rg_get X hI (o := 0) (j := 5) (k := 105) rfl rfl rfl inG6 (by decide) rfl wF_X6_104 dX6_token_1 ?_
  refine lv_aload_n hx hb dX6_token_4 rfl (lv_at hl 0 rfl) ?_
  refine rg_get X hI (o := 0) (j := 1) (k := 101) rfl rfl rfl inG6 (by decide) rfl wF_X6_101 dX6_token_5 ?_
  refine lv_icmp_ge (tgt := 23) hx hb dX6_token_8 (by decide) (fun c1 => ?_) (fun c1 => ?_)
  · have h := it_pos c1 h
    refine lv_iconst (v := -1) hx hb dX6_token_23 (by decide) ?_
    cases h
    exact hend H locs _ _ hI dX6_token_24
  · have h := it_neg c1 h
    refine lv_aload_n hx hb dX6_token_11 rfl (lv_at hl 0 rfl) ?_
    refine rg_getR X hI (o := 0) (j := 2) (k := 1) rfl rfl rfl inG6 (by decide) rfl wF_X6_7 dX6_token_12 ?_
    refine lv_aload_n hx hb dX6_token_15 rfl (lv_at hl 0 rfl) ?_
    refine rg_get X hI (o := 0) (j := 5) (k := 105) rfl rfl rfl inG6 (by decide) rfl wF_X6_104 dX6_token_16 ?_
    obtain ⟨hn2, h⟩ := gd_some h
    refine rg_ald X hI (o := 1) rfl hn2 dX6_token_19 ?_
    obtain ⟨x3, ex3, h⟩ := nm_some h
    refine rg_top ex3 ?_
    refine lv_goto (tgt := 24) hx hb dX6_token_20 (by decide) ?_
    cases h
    exact hend H locs _ _ hI dX6_token_24
set_option maxHeartbeats 4000000 in
set_option maxRecDepth 100000 in
theorem c_M_wrong (l : Launch) (D : va_G) (cI : ClassId) (ρ : Nat → Nat) (hgt : Nat) (hh : 1 ≤ hgt) {a1 : Int32} {a2 : Int32} {μ ν : St} (h : f_M_wrong a1 a2 μ = some ν) : CV l yX6_wrong cX6_wrong 3 hgt TM cI D ρ [.ref (ρ 0), .int a1, .int a2] μ ν := by
  obtain ⟨g, rfl⟩ : ∃ g, hgt = g + 1 := ⟨hgt - 1, by omega⟩
  unfold f_M_wrong at h
  refine CV_of (own := RX6) (by decide) rfl (Nat.le_of_ble_eq_true rfl) ?_
  intro p e s m args below meth c Q A H locs X hI hend ls hl
  have hx := X.1.1
  have hb := X.1.2.1
  have hl : lv_has ls 3 [(0, .ref (ρ 0)), (1, .int a1), (2, .int a2)] := hl
  refine lv_aload_n hx hb dX6_wrong_0 rfl (lv_at hl 0 rfl) ?_
  refine rg_get X hI (o := 0) (j := 3) (k := 103) rfl rfl rfl inG6 (by decide) rfl wF_X6_107 dX6_wrong_1 ?_
  refine lv_if_ne (tgt := 17) hx hb dX6_wrong_4 (by decide) (fun c1 => ?_) (fun c1 => ?_)
  · have h := it_neg c1 h
    cases h
    exact hend H locs _ _ hI dX6_wrong_17
  · have h := it_pos c1 h
    refine lv_aload_n hx hb dX6_wrong_7 rfl (lv_at hl 0 rfl) ?_
    refine lv_iload_n hx hb dX6_wrong_8 rfl (lv_at hl 1 rfl) ?_
    refine rg_put X hI (o := 0) (j := 3) (k := 103) rfl rfl rfl rfl inG6 tyX6 tyX6_ok nmX6 (by decide) rfl wF_X6_107 rfl rfl rfl rfl dX6_wrong_9 (fun H locs hI => ?_)
    obtain ⟨μ2, eμ2, h⟩ := nm_some h
    rw [← eμ2] at hI
    refine lv_aload_n hx hb dX6_wrong_12 rfl (lv_at hl 0 rfl) ?_
    refine lv_iload_n hx hb dX6_wrong_13 rfl (lv_at hl 2 rfl) ?_
    refine rg_put X hI (o := 0) (j := 4) (k := 104) rfl rfl rfl rfl inG6 tyX6 tyX6_ok nmX6 (by decide) rfl wF_X6_110 rfl rfl rfl rfl dX6_wrong_14 (fun H locs hI => ?_)
    obtain ⟨μ3, eμ3, h⟩ := nm_some h
    rw [← eμ3] at hI
    cases h
    exact hend H locs _ _ hI dX6_wrong_17
set_option maxHeartbeats 4000000 in
set_option maxRecDepth 100000 in
theorem c_M_must (l : Launch) (D : va_G) (cI : ClassId) (ρ : Nat → Nat) (hgt : Nat) (hh : 2 ≤ hgt) {a1 : Int32} {μ ν : St} {r : Int32} (h : f_M_must a1 μ = some (r, ν)) : CI l yX6_must cX6_must 2 (some .boolean) hgt TM cI D ρ [.ref (ρ 0), .int a1] μ r ν := by
  obtain ⟨g, rfl⟩ : ∃ g, hgt = g + 1 := ⟨hgt - 1, by omega⟩
  unfold f_M_must at h
  refine CZ_of (own := RX6) (by decide) rfl (Nat.le_of_ble_eq_true rfl) rfl ?_
  intro p e s m args below meth c Q A H locs X hI hend ls hl
  have hx := X.1.1
  have hb := X.1.2.1
  have hl : lv_has ls 2 [(0, .ref (ρ 0)), (1, .int a1)] := hl
  refine lv_aload_n hx hb dX6_must_0 rfl (lv_at hl 0 rfl) ?_
  obtain ⟨x2, hc1, h⟩ := ca_some h
  refine rc_vi (o := 0) (As := []) X hI (c_M_token l D cI ρ g (by omega) hc1) rfl rfl gV_X6_113 hd_X6_token (by decide) (Nat.le_refl _) hl.1 rfl (Nat.le_of_ble_eq_true rfl) dX6_must_1 (fun H locs hI => ?_)
  refine lv_iload_n hx hb dX6_must_4 rfl (lv_at hl 1 rfl) ?_
  refine lv_icmp_eq (tgt := 19) hx hb dX6_must_5 (by decide) (fun c3 => ?_) (fun c3 => ?_)
  · have h := it_pos c3 h
    refine lv_aload_n hx hb dX6_must_19 rfl (lv_at hl 0 rfl) ?_
    refine lv_dup hx hb dX6_must_20 rfl ?_
    refine rg_get X hI (o := 0) (j := 5) (k := 105) rfl rfl rfl inG6 (by decide) rfl wF_X6_104 dX6_must_21 ?_
    refine lv_iconst (v := 1) hx hb dX6_must_24 (by decide) ?_
    refine lv_iadd hx hb dX6_must_25 ?_
    refine rg_put X hI (o := 0) (j := 5) (k := 105) rfl rfl rfl rfl inG6 tyX6 tyX6_ok nmX6 (by decide) rfl wF_X6_104 rfl rfl rfl rfl dX6_must_26 (fun H locs hI => ?_)
    obtain ⟨μ4, eμ4, h⟩ := nm_some h
    rw [← eμ4] at hI
    refine lv_iconst (v := 1) hx hb dX6_must_29 (by decide) ?_
    cases h
    exact hend H locs _ _ (by decide) hI dX6_must_30
  · have h := it_neg c3 h
    refine lv_aload_n hx hb dX6_must_8 rfl (lv_at hl 0 rfl) ?_
    refine lv_iconst (v := 1) hx hb dX6_must_9 (by decide) ?_
    refine lv_aload_n hx hb dX6_must_10 rfl (lv_at hl 0 rfl) ?_
    refine rg_get X hI (o := 0) (j := 5) (k := 105) rfl rfl rfl inG6 (by decide) rfl wF_X6_104 dX6_must_11 ?_
    obtain ⟨μ6, hc5, h⟩ := ca_some h
    refine rc_vv (o := 0) (As := [.int (1 : Int32), .int (μ 105 0)]) X hI (c_M_wrong l D cI ρ g (by omega) hc5) rfl rfl gV_X6_117 hd_X6_wrong (by decide) (Nat.le_refl _) hl.1 rfl (Nat.le_of_ble_eq_true rfl) dX6_must_14 (fun H locs hI => ?_)
    refine lv_iconst (v := 0) hx hb dX6_must_17 (by decide) ?_
    cases h
    exact hend H locs _ _ (by decide) hI dX6_must_18
set_option maxHeartbeats 4000000 in
set_option maxRecDepth 100000 in
theorem c_M_in (l : Launch) (D : va_G) (cI : ClassId) (ρ : Nat → Nat) (hgt : Nat) (hh : 1 ≤ hgt) {a0 : Int32} {a1 : Int32} {a2 : Int32} {μ : St} {r : Int32} (h : f_M_in a0 a1 a2 = some r) : CI l yX6_in cX6_in 3 (some .boolean) hgt TM cI D ρ [.int a0, .int a1, .int a2] μ r μ := by
  obtain ⟨g, rfl⟩ : ∃ g, hgt = g + 1 := ⟨hgt - 1, by omega⟩
  unfold f_M_in at h
  refine CZ_of (own := RX6) (by decide) rfl (Nat.le_of_ble_eq_true rfl) rfl ?_
  intro p e s m args below meth c Q A H locs X hI hend ls hl
  have hx := X.1.1
  have hb := X.1.2.1
  have hl : lv_has ls 3 [(0, .int a0), (1, .int a1), (2, .int a2)] := hl
  refine lv_iload_n hx hb dX6_in_0 rfl (lv_at hl 0 rfl) ?_
  refine lv_iload_n hx hb dX6_in_1 rfl (lv_at hl 1 rfl) ?_
  obtain ⟨k2, ek2, h⟩ := jn_some h
  have hj3 : ∀ (ls : Array Slot), lv_has ls 3 [] → k2 = some r → W p l e (rmL (g + 1)) s m args below meth c H locs 0 0 Q (F0 m 14 ls []) := by
    intro ls hl h
    rw [ek2] at h
    refine lv_iconst (v := 0) hx hb dX6_in_14 (by decide) ?_
    cases h
    exact hend H locs _ _ (by decide) hI dX6_in_15
  refine lv_icmp_lt (tgt := 14) hx hb dX6_in_2 (by decide) (fun c4 => ?_) (fun c4 => ?_)
  · have h := it_pos c4 h
    exact hj3 ls (lv_sub hl [] rfl) h
  · have h := it_neg c4 h
    refine lv_iload_n hx hb dX6_in_5 rfl (lv_at hl 0 rfl) ?_
    refine lv_iload_n hx hb dX6_in_6 rfl (lv_at hl 2 rfl) ?_
    refine lv_icmp_gt (tgt := 14) hx hb dX6_in_7 (by decide) (fun c5 => ?_) (fun c5 => ?_)
    · have h := it_pos c5 h
      exact hj3 ls (lv_sub hl [] rfl) h
    · have h := it_neg c5 h
      refine lv_iconst (v := 1) hx hb dX6_in_10 (by decide) ?_
      refine lv_goto (tgt := 15) hx hb dX6_in_11 (by decide) ?_
      cases h
      exact hend H locs _ _ (by decide) hI dX6_in_15
set_option maxHeartbeats 4000000 in
set_option maxRecDepth 100000 in
theorem c_M_emit (l : Launch) (D : va_G) (cI : ClassId) (ρ : Nat → Nat) (hgt : Nat) (hh : 1 ≤ hgt) {a1 : Int32} {a2 : Int32} {μ ν : St} {r : Int32} (h : f_M_emit a1 a2 μ = some (r, ν)) : CI l yX6_emit cX6_emit 3 (some .int) hgt TM cI D ρ [.ref (ρ 0), .int a1, .int a2] μ r ν := by
  obtain ⟨g, rfl⟩ : ∃ g, hgt = g + 1 := ⟨hgt - 1, by omega⟩
  unfold f_M_emit at h
  refine CI_of (own := RX6) (by decide) rfl (Nat.le_of_ble_eq_true rfl) rfl ?_
  intro p e s m args below meth c Q A H locs X hI hend ls hl
  have hx := X.1.1
  have hb := X.1.2.1
  have hl : lv_has ls 3 [(0, .ref (ρ 0)), (1, .int a1), (2, .int a2)] := hl
  refine lv_aload_n hx hb dX6_emit_0 rfl (lv_at hl 0 rfl) ?_
  refine rg_getR X hI (o := 0) (j := 9) (k := 2) rfl rfl rfl inG6 (by decide) rfl wF_X6_13 dX6_emit_1 ?_
  refine lv_aload_n hx hb dX6_emit_4 rfl (lv_at hl 0 rfl) ?_
  refine rg_get X hI (o := 0) (j := 8) (k := 108) rfl rfl rfl inG6 (by decide) rfl wF_X6_121 dX6_emit_5 ?_
  refine lv_iload_n hx hb dX6_emit_8 rfl (lv_at hl 1 rfl) ?_
  obtain ⟨hn1, h⟩ := gd_some h
  refine rg_ast X hI (o := 2) rfl rfl hn1 dX6_emit_9 (fun H locs hI => ?_)
  obtain ⟨μ2, eμ2, h⟩ := nm_some h
  rw [← eμ2] at hI
  refine lv_aload_n hx hb dX6_emit_10 rfl (lv_at hl 0 rfl) ?_
  refine rg_getR X hI (o := 0) (j := 10) (k := 3) rfl rfl rfl inG6 (by decide) rfl wF_X6_16 dX6_emit_11 ?_
  refine lv_aload_n hx hb dX6_emit_14 rfl (lv_at hl 0 rfl) ?_
  refine rg_get X hI (o := 0) (j := 8) (k := 108) rfl rfl rfl inG6 (by decide) rfl wF_X6_121 dX6_emit_15 ?_
  refine lv_iload_n hx hb dX6_emit_18 rfl (lv_at hl 2 rfl) ?_
  obtain ⟨hn3, h⟩ := gd_some h
  refine rg_ast X hI (o := 3) rfl rfl hn3 dX6_emit_19 (fun H locs hI => ?_)
  obtain ⟨μ4, eμ4, h⟩ := nm_some h
  rw [← eμ4] at hI
  refine lv_aload_n hx hb dX6_emit_20 rfl (lv_at hl 0 rfl) ?_
  refine lv_dup hx hb dX6_emit_21 rfl ?_
  refine rg_get X hI (o := 0) (j := 8) (k := 108) rfl rfl rfl inG6 (by decide) rfl wF_X6_121 dX6_emit_22 ?_
  refine lv_iconst (v := 1) hx hb dX6_emit_25 (by decide) ?_
  refine lv_iadd hx hb dX6_emit_26 ?_
  refine rg_put X hI (o := 0) (j := 8) (k := 108) rfl rfl rfl rfl inG6 tyX6 tyX6_ok nmX6 (by decide) rfl wF_X6_121 rfl rfl rfl rfl dX6_emit_27 (fun H locs hI => ?_)
  obtain ⟨μ5, eμ5, h⟩ := nm_some h
  rw [← eμ5] at hI
  refine lv_aload_n hx hb dX6_emit_30 rfl (lv_at hl 0 rfl) ?_
  refine rg_get X hI (o := 0) (j := 8) (k := 108) rfl rfl rfl inG6 (by decide) rfl wF_X6_121 dX6_emit_31 ?_
  refine lv_iconst (v := 1) hx hb dX6_emit_34 (by decide) ?_
  refine lv_isub hx hb dX6_emit_35 ?_
  cases h
  exact hend H locs _ _ hI dX6_emit_36
set_option maxHeartbeats 4000000 in
set_option maxRecDepth 100000 in
theorem c_M_wrap (l : Launch) (D : va_G) (cI : ClassId) (ρ : Nat → Nat) (hgt : Nat) (hh : 1 ≤ hgt) {a0 : Int32} {μ : St} {r : Int32} (h : f_M_wrap a0 = some r) : CI l yX6_wrap cX6_wrap 1 (some .int) hgt TM cI D ρ [.int a0] μ r μ := by
  obtain ⟨g, rfl⟩ : ∃ g, hgt = g + 1 := ⟨hgt - 1, by omega⟩
  unfold f_M_wrap at h
  refine CI_of (own := RX6) (by decide) rfl (Nat.le_of_ble_eq_true rfl) rfl ?_
  intro p e s m args below meth c Q A H locs X hI hend ls hl
  have hx := X.1.1
  have hb := X.1.2.1
  have hl : lv_has ls 1 [(0, .int a0)] := hl
  refine lv_iload_n hx hb dX6_wrap_0 rfl (lv_at hl 0 rfl) ?_
  refine lv_bipush (v := 16) hx hb dX6_wrap_1 (by decide) ?_
  refine lv_ishl hx hb dX6_wrap_3 ?_
  refine lv_bipush (v := 16) hx hb dX6_wrap_4 (by decide) ?_
  refine lv_ishr hx hb dX6_wrap_6 ?_
  cases h
  exact hend H locs _ _ hI dX6_wrap_7
set_option maxHeartbeats 4000000 in
set_option maxRecDepth 100000 in
theorem c_M_levelOf (l : Launch) (D : va_G) (cI : ClassId) (ρ : Nat → Nat) (hgt : Nat) (hh : 1 ≤ hgt) {a0 : Int32} {μ : St} {r : Int32} (h : f_M_levelOf a0 = some r) : CI l yX6_levelOf cX6_levelOf 1 (some .int) hgt TM cI D ρ [.int a0] μ r μ := by
  obtain ⟨g, rfl⟩ : ∃ g, hgt = g + 1 := ⟨hgt - 1, by omega⟩
  unfold f_M_levelOf at h
  refine CI_of (own := RX6) (by decide) rfl (Nat.le_of_ble_eq_true rfl) rfl ?_
  intro p e s m args below meth c Q A H locs X hI hend ls hl
  have hx := X.1.1
  have hb := X.1.2.1
  have hl : lv_has ls 1 [(0, .int a0)] := hl
  refine lv_iload_n hx hb dX6_levelOf_0 rfl (lv_at hl 0 rfl) ?_
  refine lv_bipush (v := 18) hx hb dX6_levelOf_1 (by decide) ?_
  obtain ⟨k2, ek2, h⟩ := jn_some h
  have hj3 : ∀ (ls : Array Slot), lv_has ls 1 [] → k2 = some r → W p l e (rmL (g + 1)) s m args below meth c H locs 0 0 Q (F0 m 12 ls []) := by
    intro ls hl h
    rw [ek2] at h
    refine lv_iconst (v := 1) hx hb dX6_levelOf_12 (by decide) ?_
    refine lv_goto (tgt := 49) hx hb dX6_levelOf_13 (by decide) ?_
    cases h
    exact hend H locs _ _ hI dX6_levelOf_49
  refine lv_icmp_eq (tgt := 12) hx hb dX6_levelOf_3 (by decide) (fun c4 => ?_) (fun c4 => ?_)
  · have h := it_pos c4 h
    exact hj3 ls (lv_sub hl [] rfl) h
  · have h := it_neg c4 h
    refine lv_iload_n hx hb dX6_levelOf_6 rfl (lv_at hl 0 rfl) ?_
    refine lv_bipush (v := 19) hx hb dX6_levelOf_7 (by decide) ?_
    refine lv_icmp_ne (tgt := 16) hx hb dX6_levelOf_9 (by decide) (fun c5 => ?_) (fun c5 => ?_)
    · have h := it_neg c5 h
      refine lv_iload_n hx hb dX6_levelOf_16 rfl (lv_at hl 0 rfl) ?_
      refine lv_bipush (v := 13) hx hb dX6_levelOf_17 (by decide) ?_
      obtain ⟨k7, ek7, h⟩ := jn_some h
      have hj8 : ∀ (ls : Array Slot), lv_has ls 1 [] → k7 = some r → W p l e (rmL (g + 1)) s m args below meth c H locs 0 0 Q (F0 m 28 ls []) := by
        intro ls hl h
        rw [ek7] at h
        refine lv_iconst (v := 2) hx hb dX6_levelOf_28 (by decide) ?_
        refine lv_goto (tgt := 49) hx hb dX6_levelOf_29 (by decide) ?_
        cases h
        exact hend H locs _ _ hI dX6_levelOf_49
      refine lv_icmp_eq (tgt := 28) hx hb dX6_levelOf_19 (by decide) (fun c9 => ?_) (fun c9 => ?_)
      · have h := it_pos c9 h
        exact hj8 ls (lv_sub hl [] rfl) h
      · have h := it_neg c9 h
        refine lv_iload_n hx hb dX6_levelOf_22 rfl (lv_at hl 0 rfl) ?_
        refine lv_bipush (v := 14) hx hb dX6_levelOf_23 (by decide) ?_
        refine lv_icmp_ne (tgt := 32) hx hb dX6_levelOf_25 (by decide) (fun c10 => ?_) (fun c10 => ?_)
        · have h := it_neg c10 h
          refine lv_iload_n hx hb dX6_levelOf_32 rfl (lv_at hl 0 rfl) ?_
          refine lv_bipush (v := 15) hx hb dX6_levelOf_33 (by decide) ?_
          obtain ⟨k12, ek12, h⟩ := jn_some h
          have hj13 : ∀ (ls : Array Slot), lv_has ls 1 [] → k12 = some r → W p l e (rmL (g + 1)) s m args below meth c H locs 0 0 Q (F0 m 48 ls []) := by
            intro ls hl h
            rw [ek12] at h
            refine lv_iconst (v := 0) hx hb dX6_levelOf_48 (by decide) ?_
            cases h
            exact hend H locs _ _ hI dX6_levelOf_49
          refine lv_icmp_lt (tgt := 48) hx hb dX6_levelOf_35 (by decide) (fun c14 => ?_) (fun c14 => ?_)
          · have h := it_pos c14 h
            exact hj13 ls (lv_sub hl [] rfl) h
          · have h := it_neg c14 h
            refine lv_iload_n hx hb dX6_levelOf_38 rfl (lv_at hl 0 rfl) ?_
            refine lv_bipush (v := 17) hx hb dX6_levelOf_39 (by decide) ?_
            refine lv_icmp_gt (tgt := 48) hx hb dX6_levelOf_41 (by decide) (fun c15 => ?_) (fun c15 => ?_)
            · have h := it_pos c15 h
              exact hj13 ls (lv_sub hl [] rfl) h
            · have h := it_neg c15 h
              refine lv_iconst (v := 3) hx hb dX6_levelOf_44 (by decide) ?_
              refine lv_goto (tgt := 49) hx hb dX6_levelOf_45 (by decide) ?_
              cases h
              exact hend H locs _ _ hI dX6_levelOf_49
        · have h := it_pos c10 h
          exact hj8 ls (lv_sub hl [] rfl) h
    · have h := it_pos c5 h
      exact hj3 ls (lv_sub hl [] rfl) h
set_option maxHeartbeats 4000000 in
set_option maxRecDepth 100000 in
theorem c_M_push (l : Launch) (D : va_G) (cI : ClassId) (ρ : Nat → Nat) (hgt : Nat) (hh : 2 ≤ hgt) {a1 : Int32} {μ ν : St} (h : f_M_push a1 μ = some ν) : CV l yX6_push cX6_push 2 hgt TM cI D ρ [.ref (ρ 0), .int a1] μ ν := by
  obtain ⟨g, rfl⟩ : ∃ g, hgt = g + 1 := ⟨hgt - 1, by omega⟩
  unfold f_M_push at h
  refine CV_of (own := RX6) (by decide) rfl (Nat.le_of_ble_eq_true rfl) ?_
  intro p e s m args below meth c Q A H locs X hI hend ls hl
  have hx := X.1.1
  have hb := X.1.2.1
  have hl : lv_has ls 2 [(0, .ref (ρ 0)), (1, .int a1)] := hl
  refine lv_aload_n hx hb dX6_push_0 rfl (lv_at hl 0 rfl) ?_
  refine rg_getR X hI (o := 0) (j := 51) (k := 29) rfl rfl rfl inG6 (by decide) rfl wF_X6_94 dX6_push_1 ?_
  refine lv_aload_n hx hb dX6_push_4 rfl (lv_at hl 0 rfl) ?_
  refine rg_get X hI (o := 0) (j := 47) (k := 147) rfl rfl rfl inG6 (by decide) rfl wF_X6_224 dX6_push_5 ?_
  refine lv_iload_n hx hb dX6_push_8 rfl (lv_at hl 1 rfl) ?_
  obtain ⟨x2, hc1, h⟩ := ca_some h
  refine rc_si (As := [.int a1]) X hI (c_M_wrap l D cI ρ g (by omega) hc1) gV_X6_248 hd_X6_wrap (by decide) (Nat.le_refl _) hl.1 rfl (Nat.le_of_ble_eq_true rfl) dX6_push_9 (fun H locs hI => ?_)
  obtain ⟨hn3, h⟩ := gd_some h
  refine rg_ast X hI (o := 29) rfl rfl hn3 dX6_push_12 (fun H locs hI => ?_)
  obtain ⟨μ4, eμ4, h⟩ := nm_some h
  rw [← eμ4] at hI
  refine lv_aload_n hx hb dX6_push_13 rfl (lv_at hl 0 rfl) ?_
  refine lv_dup hx hb dX6_push_14 rfl ?_
  refine rg_get X hI (o := 0) (j := 47) (k := 147) rfl rfl rfl inG6 (by decide) rfl wF_X6_224 dX6_push_15 ?_
  refine lv_iconst (v := 1) hx hb dX6_push_18 (by decide) ?_
  refine lv_iadd hx hb dX6_push_19 ?_
  refine rg_put X hI (o := 0) (j := 47) (k := 147) rfl rfl rfl rfl inG6 tyX6 tyX6_ok nmX6 (by decide) rfl wF_X6_224 rfl rfl rfl rfl dX6_push_20 (fun H locs hI => ?_)
  obtain ⟨μ5, eμ5, h⟩ := nm_some h
  rw [← eμ5] at hI
  cases h
  exact hend H locs _ _ hI dX6_push_23
set_option maxHeartbeats 4000000 in
set_option maxRecDepth 100000 in
theorem c_M_pop (l : Launch) (D : va_G) (cI : ClassId) (ρ : Nat → Nat) (hgt : Nat) (hh : 1 ≤ hgt)  {μ ν : St} {r : Int32} (h : f_M_pop μ = some (r, ν)) : CI l yX6_pop cX6_pop 1 (some .int) hgt TM cI D ρ [.ref (ρ 0)] μ r ν := by
  obtain ⟨g, rfl⟩ : ∃ g, hgt = g + 1 := ⟨hgt - 1, by omega⟩
  unfold f_M_pop at h
  refine CI_of (own := RX6) (by decide) rfl (Nat.le_of_ble_eq_true rfl) rfl ?_
  intro p e s m args below meth c Q A H locs X hI hend ls hl
  have hx := X.1.1
  have hb := X.1.2.1
  have hl : lv_has ls 1 [(0, .ref (ρ 0))] := hl
  refine lv_aload_n hx hb dX6_pop_0 rfl (lv_at hl 0 rfl) ?_
  refine lv_dup hx hb dX6_pop_1 rfl ?_
  refine rg_get X hI (o := 0) (j := 47) (k := 147) rfl rfl rfl inG6 (by decide) rfl wF_X6_224 dX6_pop_2 ?_
  refine lv_iconst (v := 1) hx hb dX6_pop_5 (by decide) ?_
  refine lv_isub hx hb dX6_pop_6 ?_
  refine rg_put X hI (o := 0) (j := 47) (k := 147) rfl rfl rfl rfl inG6 tyX6 tyX6_ok nmX6 (by decide) rfl wF_X6_224 rfl rfl rfl rfl dX6_pop_7 (fun H locs hI => ?_)
  obtain ⟨μ1, eμ1, h⟩ := nm_some h
  rw [← eμ1] at hI
  refine lv_aload_n hx hb dX6_pop_10 rfl (lv_at hl 0 rfl) ?_
  refine rg_getR X hI (o := 0) (j := 51) (k := 29) rfl rfl rfl inG6 (by decide) rfl wF_X6_94 dX6_pop_11 ?_
  refine lv_aload_n hx hb dX6_pop_14 rfl (lv_at hl 0 rfl) ?_
  refine rg_get X hI (o := 0) (j := 47) (k := 147) rfl rfl rfl inG6 (by decide) rfl wF_X6_224 dX6_pop_15 ?_
  obtain ⟨hn2, h⟩ := gd_some h
  refine rg_ald X hI (o := 29) rfl hn2 dX6_pop_18 ?_
  obtain ⟨x3, ex3, h⟩ := nm_some h
  refine rg_top ex3 ?_
  cases h
  exact hend H locs _ _ hI dX6_pop_19
end
