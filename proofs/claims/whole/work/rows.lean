section
-- ===== PART A: goes FIRST, ahead of the names: the tables' words, and 'selects' of the private methods out of them =====
/-- a private method of a class that the tables say can be made, by its rows of tables_1 -/
def lw_okq (q : MethodName × Nat) : Prop := (q.1.cls ≠ "java/lang/invoke/MethodHandle" ∧ q.1.cls ≠ "java/lang/invoke/VarHandle") ∧ Cond.instantiable q.1.cls q.2 ∈ tables_1 ∧ Cond.privateMethod q.1 ∈ tables_1 ∧ Cond.instanceMethod q.1 ∈ tables_1
theorem lw_p0 : lw_okq (⟨"MailParts", "addWord", "(I)V"⟩, 16) := ⟨⟨by decide +kernel, by decide +kernel⟩, List.mem_of_getElem? (i := 13) (by decide +kernel), List.mem_of_getElem? (i := 262) (by decide +kernel), List.mem_of_getElem? (i := 263) (by decide +kernel)⟩
theorem lw_p1 : lw_okq (⟨"MailParts$Mail", "addLine", "(II)V"⟩, 4) := ⟨⟨by decide +kernel, by decide +kernel⟩, List.mem_of_getElem? (i := 41) (by decide +kernel), List.mem_of_getElem? (i := 291) (by decide +kernel), List.mem_of_getElem? (i := 292) (by decide +kernel)⟩
theorem lw_p2 : lw_okq (⟨"MailParts", "openEntity", "(IIII)V"⟩, 16) := ⟨⟨by decide +kernel, by decide +kernel⟩, List.mem_of_getElem? (i := 13) (by decide +kernel), List.mem_of_getElem? (i := 295) (by decide +kernel), List.mem_of_getElem? (i := 296) (by decide +kernel)⟩
theorem lw_p3 : lw_okq (⟨"MailParts", "find", "(I)LMailParts$Entity;"⟩, 16) := ⟨⟨by decide +kernel, by decide +kernel⟩, List.mem_of_getElem? (i := 13) (by decide +kernel), List.mem_of_getElem? (i := 329) (by decide +kernel), List.mem_of_getElem? (i := 330) (by decide +kernel)⟩
theorem lw_p4 : lw_okq (⟨"MailParts", "describe", "(LMailParts$Entity;)V"⟩, 16) := ⟨⟨by decide +kernel, by decide +kernel⟩, List.mem_of_getElem? (i := 13) (by decide +kernel), List.mem_of_getElem? (i := 333) (by decide +kernel), List.mem_of_getElem? (i := 334) (by decide +kernel)⟩
theorem lw_p5 : lw_okq (⟨"MailParts", "loadType", "(LMailParts$Entity;)V"⟩, 16) := ⟨⟨by decide +kernel, by decide +kernel⟩, List.mem_of_getElem? (i := 13) (by decide +kernel), List.mem_of_getElem? (i := 337) (by decide +kernel), List.mem_of_getElem? (i := 338) (by decide +kernel)⟩
theorem lw_p6 : lw_okq (⟨"MailParts", "loadField", "(LMailParts$Entity;LMailParts$Row;)Z"⟩, 16) := ⟨⟨by decide +kernel, by decide +kernel⟩, List.mem_of_getElem? (i := 13) (by decide +kernel), List.mem_of_getElem? (i := 341) (by decide +kernel), List.mem_of_getElem? (i := 342) (by decide +kernel)⟩
theorem lw_p7 : lw_okq (⟨"MailParts$Value", "find", "(III)I"⟩, 1) := ⟨⟨by decide +kernel, by decide +kernel⟩, List.mem_of_getElem? (i := 64) (by decide +kernel), List.mem_of_getElem? (i := 364) (by decide +kernel), List.mem_of_getElem? (i := 365) (by decide +kernel)⟩
theorem lw_p8 : lw_okq (⟨"MailParts$Value", "keep", "(II)V"⟩, 1) := ⟨⟨by decide +kernel, by decide +kernel⟩, List.mem_of_getElem? (i := 64) (by decide +kernel), List.mem_of_getElem? (i := 369) (by decide +kernel), List.mem_of_getElem? (i := 370) (by decide +kernel)⟩
theorem lw_p9 : lw_okq (⟨"MailParts$Value", "behindBlanks", "(II)I"⟩, 1) := ⟨⟨by decide +kernel, by decide +kernel⟩, List.mem_of_getElem? (i := 64) (by decide +kernel), List.mem_of_getElem? (i := 373) (by decide +kernel), List.mem_of_getElem? (i := 374) (by decide +kernel)⟩
theorem lw_p10 : lw_okq (⟨"MailParts$Value", "aheadOfBlanks", "(II)I"⟩, 1) := ⟨⟨by decide +kernel, by decide +kernel⟩, List.mem_of_getElem? (i := 64) (by decide +kernel), List.mem_of_getElem? (i := 378) (by decide +kernel), List.mem_of_getElem? (i := 379) (by decide +kernel)⟩
theorem lw_p11 : lw_okq (⟨"MailParts", "hasBoundary", "(LMailParts$Entity;)Z"⟩, 16) := ⟨⟨by decide +kernel, by decide +kernel⟩, List.mem_of_getElem? (i := 13) (by decide +kernel), List.mem_of_getElem? (i := 415) (by decide +kernel), List.mem_of_getElem? (i := 416) (by decide +kernel)⟩
theorem lw_p12 : lw_okq (⟨"MailParts$Value", "isNamed", "(IILMailParts$Row;)Z"⟩, 1) := ⟨⟨by decide +kernel, by decide +kernel⟩, List.mem_of_getElem? (i := 64) (by decide +kernel), List.mem_of_getElem? (i := 423) (by decide +kernel), List.mem_of_getElem? (i := 424) (by decide +kernel)⟩
theorem lw_p13 : lw_okq (⟨"MailParts$Value", "unquote", "()V"⟩, 1) := ⟨⟨by decide +kernel, by decide +kernel⟩, List.mem_of_getElem? (i := 64) (by decide +kernel), List.mem_of_getElem? (i := 428) (by decide +kernel), List.mem_of_getElem? (i := 429) (by decide +kernel)⟩
theorem lw_p14 : lw_okq (⟨"MailParts$Value", "closing", "()I"⟩, 1) := ⟨⟨by decide +kernel, by decide +kernel⟩, List.mem_of_getElem? (i := 64) (by decide +kernel), List.mem_of_getElem? (i := 432) (by decide +kernel), List.mem_of_getElem? (i := 433) (by decide +kernel)⟩
theorem lw_p15 : lw_okq (⟨"MailParts", "isOpenCoding", "(LMailParts$Entity;)Z"⟩, 16) := ⟨⟨by decide +kernel, by decide +kernel⟩, List.mem_of_getElem? (i := 13) (by decide +kernel), List.mem_of_getElem? (i := 438) (by decide +kernel), List.mem_of_getElem? (i := 439) (by decide +kernel)⟩
def lw_privs_1 : List (MethodName × Nat) := [(⟨"MailParts", "addWord", "(I)V"⟩, 16), (⟨"MailParts$Mail", "addLine", "(II)V"⟩, 4), (⟨"MailParts", "openEntity", "(IIII)V"⟩, 16), (⟨"MailParts", "find", "(I)LMailParts$Entity;"⟩, 16), (⟨"MailParts", "describe", "(LMailParts$Entity;)V"⟩, 16), (⟨"MailParts", "loadType", "(LMailParts$Entity;)V"⟩, 16), (⟨"MailParts", "loadField", "(LMailParts$Entity;LMailParts$Row;)Z"⟩, 16), (⟨"MailParts$Value", "find", "(III)I"⟩, 1), (⟨"MailParts$Value", "keep", "(II)V"⟩, 1), (⟨"MailParts$Value", "behindBlanks", "(II)I"⟩, 1), (⟨"MailParts$Value", "aheadOfBlanks", "(II)I"⟩, 1), (⟨"MailParts", "hasBoundary", "(LMailParts$Entity;)Z"⟩, 16), (⟨"MailParts$Value", "isNamed", "(IILMailParts$Row;)Z"⟩, 1), (⟨"MailParts$Value", "unquote", "()V"⟩, 1), (⟨"MailParts$Value", "closing", "()I"⟩, 1), (⟨"MailParts", "isOpenCoding", "(LMailParts$Entity;)Z"⟩, 16)]
theorem lw_r1 : ∀ q ∈ lw_privs_1, lw_okq q := List.forall_mem_cons.mpr ⟨lw_p0, List.forall_mem_cons.mpr ⟨lw_p1, List.forall_mem_cons.mpr ⟨lw_p2, List.forall_mem_cons.mpr ⟨lw_p3, List.forall_mem_cons.mpr ⟨lw_p4, List.forall_mem_cons.mpr ⟨lw_p5, List.forall_mem_cons.mpr ⟨lw_p6, List.forall_mem_cons.mpr ⟨lw_p7, List.forall_mem_cons.mpr ⟨lw_p8, List.forall_mem_cons.mpr ⟨lw_p9, List.forall_mem_cons.mpr ⟨lw_p10, List.forall_mem_cons.mpr ⟨lw_p11, List.forall_mem_cons.mpr ⟨lw_p12, List.forall_mem_cons.mpr ⟨lw_p13, List.forall_mem_cons.mpr ⟨lw_p14, List.forall_mem_cons.mpr ⟨lw_p15, fun _ h => absurd h List.not_mem_nil⟩⟩⟩⟩⟩⟩⟩⟩⟩⟩⟩⟩⟩⟩⟩⟩
theorem lw_p16 : lw_okq (⟨"MailParts", "openParts", "(LMailParts$Entity;II)V"⟩, 16) := ⟨⟨by decide +kernel, by decide +kernel⟩, List.mem_of_getElem? (i := 13) (by decide +kernel), List.mem_of_getElem? (i := 445) (by decide +kernel), List.mem_of_getElem? (i := 446) (by decide +kernel)⟩
theorem lw_p17 : lw_okq (⟨"MailParts$Mail", "hasDashes", "(II)Z"⟩, 4) := ⟨⟨by decide +kernel, by decide +kernel⟩, List.mem_of_getElem? (i := 41) (by decide +kernel), List.mem_of_getElem? (i := 453) (by decide +kernel), List.mem_of_getElem? (i := 454) (by decide +kernel)⟩
theorem lw_p18 : lw_okq (⟨"MailParts", "chooseTexts", "()V"⟩, 16) := ⟨⟨by decide +kernel, by decide +kernel⟩, List.mem_of_getElem? (i := 13) (by decide +kernel), List.mem_of_getElem? (i := 457) (by decide +kernel), List.mem_of_getElem? (i := 458) (by decide +kernel)⟩
theorem lw_p19 : lw_okq (⟨"MailParts", "listLeaves", "()V"⟩, 16) := ⟨⟨by decide +kernel, by decide +kernel⟩, List.mem_of_getElem? (i := 13) (by decide +kernel), List.mem_of_getElem? (i := 461) (by decide +kernel), List.mem_of_getElem? (i := 462) (by decide +kernel)⟩
theorem lw_p20 : lw_okq (⟨"MailParts", "countFields", "(LMailParts$Entity;)I"⟩, 16) := ⟨⟨by decide +kernel, by decide +kernel⟩, List.mem_of_getElem? (i := 13) (by decide +kernel), List.mem_of_getElem? (i := 470) (by decide +kernel), List.mem_of_getElem? (i := 471) (by decide +kernel)⟩
theorem lw_p21 : lw_okq (⟨"MailParts", "loadWord", "(II)Z"⟩, 16) := ⟨⟨by decide +kernel, by decide +kernel⟩, List.mem_of_getElem? (i := 13) (by decide +kernel), List.mem_of_getElem? (i := 479) (by decide +kernel), List.mem_of_getElem? (i := 480) (by decide +kernel)⟩
theorem lw_p22 : lw_okq (⟨"MailParts", "loadName", "(LMailParts$Entity;)V"⟩, 16) := ⟨⟨by decide +kernel, by decide +kernel⟩, List.mem_of_getElem? (i := 13) (by decide +kernel), List.mem_of_getElem? (i := 483) (by decide +kernel), List.mem_of_getElem? (i := 484) (by decide +kernel)⟩
theorem lw_p23 : lw_okq (⟨"MailParts", "answerOnTape", "(Z)I"⟩, 16) := ⟨⟨by decide +kernel, by decide +kernel⟩, List.mem_of_getElem? (i := 13) (by decide +kernel), List.mem_of_getElem? (i := 495) (by decide +kernel), List.mem_of_getElem? (i := 496) (by decide +kernel)⟩
theorem lw_p24 : lw_okq (⟨"MailPartsModel", "split", "()V"⟩, 57) := ⟨⟨by decide +kernel, by decide +kernel⟩, List.mem_of_getElem? (i := 524) (by decide +kernel), List.mem_of_getElem? (i := 715) (by decide +kernel), List.mem_of_getElem? (i := 716) (by decide +kernel)⟩
theorem lw_p25 : lw_okq (⟨"MailPartsModel", "build", "()V"⟩, 57) := ⟨⟨by decide +kernel, by decide +kernel⟩, List.mem_of_getElem? (i := 524) (by decide +kernel), List.mem_of_getElem? (i := 719) (by decide +kernel), List.mem_of_getElem? (i := 720) (by decide +kernel)⟩
theorem lw_p26 : lw_okq (⟨"MailPartsModel", "push", "(III)V"⟩, 57) := ⟨⟨by decide +kernel, by decide +kernel⟩, List.mem_of_getElem? (i := 524) (by decide +kernel), List.mem_of_getElem? (i := 723) (by decide +kernel), List.mem_of_getElem? (i := 724) (by decide +kernel)⟩
theorem lw_p27 : lw_okq (⟨"MailPartsModel", "look", "(I)V"⟩, 57) := ⟨⟨by decide +kernel, by decide +kernel⟩, List.mem_of_getElem? (i := 524) (by decide +kernel), List.mem_of_getElem? (i := 727) (by decide +kernel), List.mem_of_getElem? (i := 728) (by decide +kernel)⟩
theorem lw_p28 : lw_okq (⟨"MailPartsModel", "findHead", "(I)V"⟩, 57) := ⟨⟨by decide +kernel, by decide +kernel⟩, List.mem_of_getElem? (i := 524) (by decide +kernel), List.mem_of_getElem? (i := 731) (by decide +kernel), List.mem_of_getElem? (i := 732) (by decide +kernel)⟩
theorem lw_p29 : lw_okq (⟨"MailPartsModel", "colon", "(I)I"⟩, 57) := ⟨⟨by decide +kernel, by decide +kernel⟩, List.mem_of_getElem? (i := 524) (by decide +kernel), List.mem_of_getElem? (i := 735) (by decide +kernel), List.mem_of_getElem? (i := 736) (by decide +kernel)⟩
theorem lw_p30 : lw_okq (⟨"MailPartsModel", "isMulti", "(I)Z"⟩, 57) := ⟨⟨by decide +kernel, by decide +kernel⟩, List.mem_of_getElem? (i := 524) (by decide +kernel), List.mem_of_getElem? (i := 748) (by decide +kernel), List.mem_of_getElem? (i := 749) (by decide +kernel)⟩
theorem lw_p31 : lw_okq (⟨"MailPartsModel", "type", "(I)V"⟩, 57) := ⟨⟨by decide +kernel, by decide +kernel⟩, List.mem_of_getElem? (i := 524) (by decide +kernel), List.mem_of_getElem? (i := 752) (by decide +kernel), List.mem_of_getElem? (i := 753) (by decide +kernel)⟩
def lw_privs_2 : List (MethodName × Nat) := [(⟨"MailParts", "openParts", "(LMailParts$Entity;II)V"⟩, 16), (⟨"MailParts$Mail", "hasDashes", "(II)Z"⟩, 4), (⟨"MailParts", "chooseTexts", "()V"⟩, 16), (⟨"MailParts", "listLeaves", "()V"⟩, 16), (⟨"MailParts", "countFields", "(LMailParts$Entity;)I"⟩, 16), (⟨"MailParts", "loadWord", "(II)Z"⟩, 16), (⟨"MailParts", "loadName", "(LMailParts$Entity;)V"⟩, 16), (⟨"MailParts", "answerOnTape", "(Z)I"⟩, 16), (⟨"MailPartsModel", "split", "()V"⟩, 57), (⟨"MailPartsModel", "build", "()V"⟩, 57), (⟨"MailPartsModel", "push", "(III)V"⟩, 57), (⟨"MailPartsModel", "look", "(I)V"⟩, 57), (⟨"MailPartsModel", "findHead", "(I)V"⟩, 57), (⟨"MailPartsModel", "colon", "(I)I"⟩, 57), (⟨"MailPartsModel", "isMulti", "(I)Z"⟩, 57), (⟨"MailPartsModel", "type", "(I)V"⟩, 57)]
theorem lw_r2 : ∀ q ∈ lw_privs_2, lw_okq q := List.forall_mem_cons.mpr ⟨lw_p16, List.forall_mem_cons.mpr ⟨lw_p17, List.forall_mem_cons.mpr ⟨lw_p18, List.forall_mem_cons.mpr ⟨lw_p19, List.forall_mem_cons.mpr ⟨lw_p20, List.forall_mem_cons.mpr ⟨lw_p21, List.forall_mem_cons.mpr ⟨lw_p22, List.forall_mem_cons.mpr ⟨lw_p23, List.forall_mem_cons.mpr ⟨lw_p24, List.forall_mem_cons.mpr ⟨lw_p25, List.forall_mem_cons.mpr ⟨lw_p26, List.forall_mem_cons.mpr ⟨lw_p27, List.forall_mem_cons.mpr ⟨lw_p28, List.forall_mem_cons.mpr ⟨lw_p29, List.forall_mem_cons.mpr ⟨lw_p30, List.forall_mem_cons.mpr ⟨lw_p31, fun _ h => absurd h List.not_mem_nil⟩⟩⟩⟩⟩⟩⟩⟩⟩⟩⟩⟩⟩⟩⟩⟩
theorem lw_p32 : lw_okq (⟨"MailPartsModel", "firstItem", "(I[I)V"⟩, 57) := ⟨⟨by decide +kernel, by decide +kernel⟩, List.mem_of_getElem? (i := 524) (by decide +kernel), List.mem_of_getElem? (i := 756) (by decide +kernel), List.mem_of_getElem? (i := 757) (by decide +kernel)⟩
theorem lw_p33 : lw_okq (⟨"MailPartsModel", "nothing", "()V"⟩, 57) := ⟨⟨by decide +kernel, by decide +kernel⟩, List.mem_of_getElem? (i := 524) (by decide +kernel), List.mem_of_getElem? (i := 760) (by decide +kernel), List.mem_of_getElem? (i := 761) (by decide +kernel)⟩
theorem lw_p34 : lw_okq (⟨"MailPartsModel", "find", "(I[II)Z"⟩, 57) := ⟨⟨by decide +kernel, by decide +kernel⟩, List.mem_of_getElem? (i := 524) (by decide +kernel), List.mem_of_getElem? (i := 764) (by decide +kernel), List.mem_of_getElem? (i := 765) (by decide +kernel)⟩
theorem lw_p35 : lw_okq (⟨"MailPartsModel", "itemize", "()V"⟩, 57) := ⟨⟨by decide +kernel, by decide +kernel⟩, List.mem_of_getElem? (i := 524) (by decide +kernel), List.mem_of_getElem? (i := 771) (by decide +kernel), List.mem_of_getElem? (i := 772) (by decide +kernel)⟩
theorem lw_p36 : lw_okq (⟨"MailPartsModel", "over", "(II)I"⟩, 57) := ⟨⟨by decide +kernel, by decide +kernel⟩, List.mem_of_getElem? (i := 524) (by decide +kernel), List.mem_of_getElem? (i := 775) (by decide +kernel), List.mem_of_getElem? (i := 776) (by decide +kernel)⟩
theorem lw_p37 : lw_okq (⟨"MailPartsModel", "trim", "(II)V"⟩, 57) := ⟨⟨by decide +kernel, by decide +kernel⟩, List.mem_of_getElem? (i := 524) (by decide +kernel), List.mem_of_getElem? (i := 779) (by decide +kernel), List.mem_of_getElem? (i := 780) (by decide +kernel)⟩
theorem lw_p38 : lw_okq (⟨"MailPartsModel", "keep", "(IIZ)V"⟩, 57) := ⟨⟨by decide +kernel, by decide +kernel⟩, List.mem_of_getElem? (i := 524) (by decide +kernel), List.mem_of_getElem? (i := 783) (by decide +kernel), List.mem_of_getElem? (i := 784) (by decide +kernel)⟩
theorem lw_p39 : lw_okq (⟨"MailPartsModel", "isType", "()Z"⟩, 57) := ⟨⟨by decide +kernel, by decide +kernel⟩, List.mem_of_getElem? (i := 524) (by decide +kernel), List.mem_of_getElem? (i := 787) (by decide +kernel), List.mem_of_getElem? (i := 788) (by decide +kernel)⟩
theorem lw_p40 : lw_okq (⟨"MailPartsModel", "isGot", "([I)Z"⟩, 57) := ⟨⟨by decide +kernel, by decide +kernel⟩, List.mem_of_getElem? (i := 524) (by decide +kernel), List.mem_of_getElem? (i := 791) (by decide +kernel), List.mem_of_getElem? (i := 792) (by decide +kernel)⟩
theorem lw_p41 : lw_okq (⟨"MailPartsModel", "set", "([I)V"⟩, 57) := ⟨⟨by decide +kernel, by decide +kernel⟩, List.mem_of_getElem? (i := 524) (by decide +kernel), List.mem_of_getElem? (i := 795) (by decide +kernel), List.mem_of_getElem? (i := 796) (by decide +kernel)⟩
theorem lw_p42 : lw_okq (⟨"MailPartsModel", "begins", "([I)Z"⟩, 57) := ⟨⟨by decide +kernel, by decide +kernel⟩, List.mem_of_getElem? (i := 524) (by decide +kernel), List.mem_of_getElem? (i := 799) (by decide +kernel), List.mem_of_getElem? (i := 800) (by decide +kernel)⟩
theorem lw_p43 : lw_okq (⟨"MailPartsModel", "parameterOf", "([II)Z"⟩, 57) := ⟨⟨by decide +kernel, by decide +kernel⟩, List.mem_of_getElem? (i := 524) (by decide +kernel), List.mem_of_getElem? (i := 803) (by decide +kernel), List.mem_of_getElem? (i := 804) (by decide +kernel)⟩
theorem lw_p44 : lw_okq (⟨"MailPartsModel", "unquote", "()V"⟩, 57) := ⟨⟨by decide +kernel, by decide +kernel⟩, List.mem_of_getElem? (i := 524) (by decide +kernel), List.mem_of_getElem? (i := 807) (by decide +kernel), List.mem_of_getElem? (i := 808) (by decide +kernel)⟩
theorem lw_p45 : lw_okq (⟨"MailPartsModel", "findParts", "(I)V"⟩, 57) := ⟨⟨by decide +kernel, by decide +kernel⟩, List.mem_of_getElem? (i := 524) (by decide +kernel), List.mem_of_getElem? (i := 811) (by decide +kernel), List.mem_of_getElem? (i := 812) (by decide +kernel)⟩
theorem lw_p46 : lw_okq (⟨"MailPartsModel", "marked", "(I)I"⟩, 57) := ⟨⟨by decide +kernel, by decide +kernel⟩, List.mem_of_getElem? (i := 524) (by decide +kernel), List.mem_of_getElem? (i := 815) (by decide +kernel), List.mem_of_getElem? (i := 816) (by decide +kernel)⟩
theorem lw_p47 : lw_okq (⟨"MailPartsModel", "add", "(II)V"⟩, 57) := ⟨⟨by decide +kernel, by decide +kernel⟩, List.mem_of_getElem? (i := 524) (by decide +kernel), List.mem_of_getElem? (i := 819) (by decide +kernel), List.mem_of_getElem? (i := 820) (by decide +kernel)⟩
def lw_privs_3 : List (MethodName × Nat) := [(⟨"MailPartsModel", "firstItem", "(I[I)V"⟩, 57), (⟨"MailPartsModel", "nothing", "()V"⟩, 57), (⟨"MailPartsModel", "find", "(I[II)Z"⟩, 57), (⟨"MailPartsModel", "itemize", "()V"⟩, 57), (⟨"MailPartsModel", "over", "(II)I"⟩, 57), (⟨"MailPartsModel", "trim", "(II)V"⟩, 57), (⟨"MailPartsModel", "keep", "(IIZ)V"⟩, 57), (⟨"MailPartsModel", "isType", "()Z"⟩, 57), (⟨"MailPartsModel", "isGot", "([I)Z"⟩, 57), (⟨"MailPartsModel", "set", "([I)V"⟩, 57), (⟨"MailPartsModel", "begins", "([I)Z"⟩, 57), (⟨"MailPartsModel", "parameterOf", "([II)Z"⟩, 57), (⟨"MailPartsModel", "unquote", "()V"⟩, 57), (⟨"MailPartsModel", "findParts", "(I)V"⟩, 57), (⟨"MailPartsModel", "marked", "(I)I"⟩, 57), (⟨"MailPartsModel", "add", "(II)V"⟩, 57)]
theorem lw_r3 : ∀ q ∈ lw_privs_3, lw_okq q := List.forall_mem_cons.mpr ⟨lw_p32, List.forall_mem_cons.mpr ⟨lw_p33, List.forall_mem_cons.mpr ⟨lw_p34, List.forall_mem_cons.mpr ⟨lw_p35, List.forall_mem_cons.mpr ⟨lw_p36, List.forall_mem_cons.mpr ⟨lw_p37, List.forall_mem_cons.mpr ⟨lw_p38, List.forall_mem_cons.mpr ⟨lw_p39, List.forall_mem_cons.mpr ⟨lw_p40, List.forall_mem_cons.mpr ⟨lw_p41, List.forall_mem_cons.mpr ⟨lw_p42, List.forall_mem_cons.mpr ⟨lw_p43, List.forall_mem_cons.mpr ⟨lw_p44, List.forall_mem_cons.mpr ⟨lw_p45, List.forall_mem_cons.mpr ⟨lw_p46, List.forall_mem_cons.mpr ⟨lw_p47, fun _ h => absurd h List.not_mem_nil⟩⟩⟩⟩⟩⟩⟩⟩⟩⟩⟩⟩⟩⟩⟩⟩
theorem lw_p48 : lw_okq (⟨"MailPartsModel", "isEnclosed", "(I)Z"⟩, 57) := ⟨⟨by decide +kernel, by decide +kernel⟩, List.mem_of_getElem? (i := 524) (by decide +kernel), List.mem_of_getElem? (i := 823) (by decide +kernel), List.mem_of_getElem? (i := 824) (by decide +kernel)⟩
theorem lw_p49 : lw_okq (⟨"MailPartsModel", "findTexts", "()V"⟩, 57) := ⟨⟨by decide +kernel, by decide +kernel⟩, List.mem_of_getElem? (i := 524) (by decide +kernel), List.mem_of_getElem? (i := 827) (by decide +kernel), List.mem_of_getElem? (i := 828) (by decide +kernel)⟩
theorem lw_p50 : lw_okq (⟨"MailPartsModel", "isHung", "(I)Z"⟩, 57) := ⟨⟨by decide +kernel, by decide +kernel⟩, List.mem_of_getElem? (i := 524) (by decide +kernel), List.mem_of_getElem? (i := 831) (by decide +kernel), List.mem_of_getElem? (i := 832) (by decide +kernel)⟩
theorem lw_p51 : lw_okq (⟨"MailPartsModel", "alternative", "(I)J"⟩, 57) := ⟨⟨by decide +kernel, by decide +kernel⟩, List.mem_of_getElem? (i := 524) (by decide +kernel), List.mem_of_getElem? (i := 835) (by decide +kernel), List.mem_of_getElem? (i := 836) (by decide +kernel)⟩
theorem lw_p52 : lw_okq (⟨"MailPartsModel", "isThere", "(I)Z"⟩, 57) := ⟨⟨by decide +kernel, by decide +kernel⟩, List.mem_of_getElem? (i := 524) (by decide +kernel), List.mem_of_getElem? (i := 843) (by decide +kernel), List.mem_of_getElem? (i := 844) (by decide +kernel)⟩
theorem lw_p53 : lw_okq (⟨"MailPartsModel", "place", "(I)I"⟩, 57) := ⟨⟨by decide +kernel, by decide +kernel⟩, List.mem_of_getElem? (i := 524) (by decide +kernel), List.mem_of_getElem? (i := 847) (by decide +kernel), List.mem_of_getElem? (i := 848) (by decide +kernel)⟩
theorem lw_p54 : lw_okq (⟨"MailPartsModel", "children", "(I)I"⟩, 57) := ⟨⟨by decide +kernel, by decide +kernel⟩, List.mem_of_getElem? (i := 524) (by decide +kernel), List.mem_of_getElem? (i := 851) (by decide +kernel), List.mem_of_getElem? (i := 852) (by decide +kernel)⟩
theorem lw_p55 : lw_okq (⟨"MailPartsModel", "fields", "(I)I"⟩, 57) := ⟨⟨by decide +kernel, by decide +kernel⟩, List.mem_of_getElem? (i := 524) (by decide +kernel), List.mem_of_getElem? (i := 855) (by decide +kernel), List.mem_of_getElem? (i := 856) (by decide +kernel)⟩
theorem lw_p56 : lw_okq (⟨"MailPartsModel", "isAlike", "(II)Z"⟩, 57) := ⟨⟨by decide +kernel, by decide +kernel⟩, List.mem_of_getElem? (i := 524) (by decide +kernel), List.mem_of_getElem? (i := 859) (by decide +kernel), List.mem_of_getElem? (i := 860) (by decide +kernel)⟩
theorem lw_p57 : lw_okq (⟨"MailPartsModel", "tell", "(II)Z"⟩, 57) := ⟨⟨by decide +kernel, by decide +kernel⟩, List.mem_of_getElem? (i := 524) (by decide +kernel), List.mem_of_getElem? (i := 867) (by decide +kernel), List.mem_of_getElem? (i := 868) (by decide +kernel)⟩
theorem lw_p58 : lw_okq (⟨"MailPartsModel", "called", "(I)V"⟩, 57) := ⟨⟨by decide +kernel, by decide +kernel⟩, List.mem_of_getElem? (i := 524) (by decide +kernel), List.mem_of_getElem? (i := 871) (by decide +kernel), List.mem_of_getElem? (i := 872) (by decide +kernel)⟩
theorem lw_p59 : lw_okq (⟨"MailPartsModel", "ask", "()I"⟩, 57) := ⟨⟨by decide +kernel, by decide +kernel⟩, List.mem_of_getElem? (i := 524) (by decide +kernel), List.mem_of_getElem? (i := 883) (by decide +kernel), List.mem_of_getElem? (i := 884) (by decide +kernel)⟩
theorem lw_p60 : lw_okq (⟨"MailPartsModel", "isListed", "(IZ)Z"⟩, 57) := ⟨⟨by decide +kernel, by decide +kernel⟩, List.mem_of_getElem? (i := 524) (by decide +kernel), List.mem_of_getElem? (i := 899) (by decide +kernel), List.mem_of_getElem? (i := 900) (by decide +kernel)⟩
theorem lw_p61 : lw_okq (⟨"MailPartsModel", "isHanging", "(I)Z"⟩, 57) := ⟨⟨by decide +kernel, by decide +kernel⟩, List.mem_of_getElem? (i := 524) (by decide +kernel), List.mem_of_getElem? (i := 903) (by decide +kernel), List.mem_of_getElem? (i := 904) (by decide +kernel)⟩
theorem lw_p62 : lw_okq (⟨"MailPartsModel", "put", "(II)V"⟩, 57) := ⟨⟨by decide +kernel, by decide +kernel⟩, List.mem_of_getElem? (i := 524) (by decide +kernel), List.mem_of_getElem? (i := 911) (by decide +kernel), List.mem_of_getElem? (i := 912) (by decide +kernel)⟩
def lw_privs_4 : List (MethodName × Nat) := [(⟨"MailPartsModel", "isEnclosed", "(I)Z"⟩, 57), (⟨"MailPartsModel", "findTexts", "()V"⟩, 57), (⟨"MailPartsModel", "isHung", "(I)Z"⟩, 57), (⟨"MailPartsModel", "alternative", "(I)J"⟩, 57), (⟨"MailPartsModel", "isThere", "(I)Z"⟩, 57), (⟨"MailPartsModel", "place", "(I)I"⟩, 57), (⟨"MailPartsModel", "children", "(I)I"⟩, 57), (⟨"MailPartsModel", "fields", "(I)I"⟩, 57), (⟨"MailPartsModel", "isAlike", "(II)Z"⟩, 57), (⟨"MailPartsModel", "tell", "(II)Z"⟩, 57), (⟨"MailPartsModel", "called", "(I)V"⟩, 57), (⟨"MailPartsModel", "ask", "()I"⟩, 57), (⟨"MailPartsModel", "isListed", "(IZ)Z"⟩, 57), (⟨"MailPartsModel", "isHanging", "(I)Z"⟩, 57), (⟨"MailPartsModel", "put", "(II)V"⟩, 57)]
theorem lw_r4 : ∀ q ∈ lw_privs_4, lw_okq q := List.forall_mem_cons.mpr ⟨lw_p48, List.forall_mem_cons.mpr ⟨lw_p49, List.forall_mem_cons.mpr ⟨lw_p50, List.forall_mem_cons.mpr ⟨lw_p51, List.forall_mem_cons.mpr ⟨lw_p52, List.forall_mem_cons.mpr ⟨lw_p53, List.forall_mem_cons.mpr ⟨lw_p54, List.forall_mem_cons.mpr ⟨lw_p55, List.forall_mem_cons.mpr ⟨lw_p56, List.forall_mem_cons.mpr ⟨lw_p57, List.forall_mem_cons.mpr ⟨lw_p58, List.forall_mem_cons.mpr ⟨lw_p59, List.forall_mem_cons.mpr ⟨lw_p60, List.forall_mem_cons.mpr ⟨lw_p61, List.forall_mem_cons.mpr ⟨lw_p62, fun _ h => absurd h List.not_mem_nil⟩⟩⟩⟩⟩⟩⟩⟩⟩⟩⟩⟩⟩⟩⟩
def lw_privs : List (MethodName × Nat) := lw_privs_1 ++ (lw_privs_2 ++ (lw_privs_3 ++ (lw_privs_4)))
def lw_tbl : List Cond := k2_sels lw_privs ++ tables_1
theorem lw_privs_ok : ∀ q ∈ lw_privs, lw_okq q := by
  show ∀ q ∈ lw_privs_1 ++ (lw_privs_2 ++ (lw_privs_3 ++ (lw_privs_4))), lw_okq q
  exact List.forall_mem_append.mpr ⟨lw_r1, List.forall_mem_append.mpr ⟨lw_r2, List.forall_mem_append.mpr ⟨lw_r3, lw_r4⟩⟩⟩
end
section
def T_En : u_T := fun k => match k with
  | 0 => ("MailParts$Entity", "kind", "I", false)
  | 1 => ("MailParts$Entity", "in", "I", false)
  | 2 => ("MailParts$Entity", "deep", "I", false)
  | 3 => ("MailParts$Entity", "hung", "Z", false)
  | 4 => ("MailParts$Entity", "from", "I", false)
  | 5 => ("MailParts$Entity", "headTo", "I", false)
  | 6 => ("MailParts$Entity", "bodyFrom", "I", false)
  | 7 => ("MailParts$Entity", "to", "I", false)
  | 8 => ("MailParts$Entity", "parts", "I", false)
  | 9 => ("MailParts$Entity", "fields", "I", false)
  | 10 => ("MailParts$Entity", "alternative", "Z", false)
  | 11 => ("MailParts$Entity", "digest", "Z", false)
  | 12 => ("MailParts$Entity", "hangs", "Z", false)
  | 13 => ("MailParts$Entity", "hasTexts", "Z", false)
  | 14 => ("MailParts$Entity", "hasHtml", "Z", false)
  | 15 => ("MailParts$Entity", "chosen", "I", false)
  | _ => ("MailParts$Entity", "taken", "Z", false)
def t_En : Nat → FieldType := fun k => match k with
  | 0 => .int
  | 1 => .int
  | 2 => .int
  | 3 => .boolean
  | 4 => .int
  | 5 => .int
  | 6 => .int
  | 7 => .int
  | 8 => .int
  | 9 => .int
  | 10 => .boolean
  | 11 => .boolean
  | 12 => .boolean
  | 13 => .boolean
  | 14 => .boolean
  | 15 => .int
  | _ => .boolean
def T_Ma : u_T := fun k => match k with
  | 0 => ("MailParts$Mail", "bytes", "LMailParts$Row;", true)
  | 1 => ("MailParts$Mail", "starts", "[I", true)
  | 2 => ("MailParts$Mail", "stops", "[I", true)
  | _ => ("MailParts$Mail", "lines", "I", false)
def t_Ma : Nat → FieldType := fun k => match k with
  | 0 => .object "MailParts$Row"
  | 1 => .array .int
  | 2 => .array .int
  | _ => .int
def T_Ro : u_T := fun k => match k with
  | 0 => ("MailParts$Row", "numbers", "[I", true)
  | _ => ("MailParts$Row", "size", "I", false)
def t_Ro : Nat → FieldType := fun k => match k with
  | 0 => .array .int
  | _ => .int
def T_Va : u_T := fun k => match k with
  | _ => ("MailParts$Value", "bytes", "LMailParts$Row;", true)
def t_Va : Nat → FieldType := fun k => match k with
  | _ => .object "MailParts$Row"
def T_Mp : u_T := fun k => match k with
  | 0 => ("MailParts", "ready", "LMailParts$Row;", true)
  | 1 => ("MailParts", "tape", "LMailParts$Row;", true)
  | 2 => ("MailParts", "mail", "LMailParts$Mail;", true)
  | 3 => ("MailParts", "value", "LMailParts$Value;", true)
  | 4 => ("MailParts", "typeField", "LMailParts$Row;", true)
  | 5 => ("MailParts", "codingField", "LMailParts$Row;", true)
  | 6 => ("MailParts", "dispositionField", "LMailParts$Row;", true)
  | 7 => ("MailParts", "boundaryName", "LMailParts$Row;", true)
  | 8 => ("MailParts", "filenameName", "LMailParts$Row;", true)
  | 9 => ("MailParts", "nameName", "LMailParts$Row;", true)
  | 10 => ("MailParts", "entities", "[LMailParts$Entity;", true)
  | 11 => ("MailParts", "boundaries", "[LMailParts$Row;", true)
  | 12 => ("MailParts", "textLeaves", "LMailParts$Row;", true)
  | 13 => ("MailParts", "hangingLeaves", "LMailParts$Row;", true)
  | 14 => ("MailParts", "made", "I", false)
  | _ => ("MailParts", "lost", "I", false)
def t_Mp : Nat → FieldType := fun k => match k with
  | 0 => .object "MailParts$Row"
  | 1 => .object "MailParts$Row"
  | 2 => .object "MailParts$Mail"
  | 3 => .object "MailParts$Value"
  | 4 => .object "MailParts$Row"
  | 5 => .object "MailParts$Row"
  | 6 => .object "MailParts$Row"
  | 7 => .object "MailParts$Row"
  | 8 => .object "MailParts$Row"
  | 9 => .object "MailParts$Row"
  | 10 => .array (.object "MailParts$Entity")
  | 11 => .array (.object "MailParts$Row")
  | 12 => .object "MailParts$Row"
  | 13 => .object "MailParts$Row"
  | 14 => .int
  | _ => .int
def T_Mo : u_T := fun k => match k with
  | 0 => ("MailPartsModel", "CONTENT", "[I", true)
  | 1 => ("MailPartsModel", "TRANSFER", "[I", true)
  | 2 => ("MailPartsModel", "DISPOSITION", "[I", true)
  | 3 => ("MailPartsModel", "BOUNDARY_NAME", "[I", true)
  | 4 => ("MailPartsModel", "FILE_NAME", "[I", true)
  | 5 => ("MailPartsModel", "NAME", "[I", true)
  | 6 => ("MailPartsModel", "PLAIN", "[I", true)
  | 7 => ("MailPartsModel", "HTML", "[I", true)
  | 8 => ("MailPartsModel", "TEXT", "[I", true)
  | 9 => ("MailPartsModel", "MULTIPART", "[I", true)
  | 10 => ("MailPartsModel", "DIGEST", "[I", true)
  | 11 => ("MailPartsModel", "ALTERNATIVE", "[I", true)
  | 12 => ("MailPartsModel", "MESSAGE", "[I", true)
  | 13 => ("MailPartsModel", "ATTACHMENT", "[I", true)
  | 14 => ("MailPartsModel", "SEVEN", "[I", true)
  | 15 => ("MailPartsModel", "EIGHT", "[I", true)
  | 16 => ("MailPartsModel", "BINARY", "[I", true)
  | 17 => ("MailPartsModel", "ready", "[B", true)
  | 18 => ("MailPartsModel", "tape", "[B", true)
  | 19 => ("MailPartsModel", "taped", "I", false)
  | 20 => ("MailPartsModel", "mail", "[B", true)
  | 21 => ("MailPartsModel", "size", "I", false)
  | 22 => ("MailPartsModel", "isRead", "Z", false)
  | 23 => ("MailPartsModel", "lines", "I", false)
  | 24 => ("MailPartsModel", "lineFrom", "[I", true)
  | 25 => ("MailPartsModel", "lineTo", "[I", true)
  | 26 => ("MailPartsModel", "entities", "I", false)
  | 27 => ("MailPartsModel", "lost", "I", false)
  | 28 => ("MailPartsModel", "first", "[I", true)
  | 29 => ("MailPartsModel", "end", "[I", true)
  | 30 => ("MailPartsModel", "headEnd", "[I", true)
  | 31 => ("MailPartsModel", "body", "[I", true)
  | 32 => ("MailPartsModel", "around", "[I", true)
  | 33 => ("MailPartsModel", "depth", "[I", true)
  | 34 => ("MailPartsModel", "kind", "[I", true)
  | 35 => ("MailPartsModel", "texts", "[J", true)
  | 36 => ("MailPartsModel", "shown", "J", false)
  | 37 => ("MailPartsModel", "html", "J", false)
  | 38 => ("MailPartsModel", "tasks", "I", false)
  | 39 => ("MailPartsModel", "taskFrom", "[I", true)
  | 40 => ("MailPartsModel", "taskTo", "[I", true)
  | 41 => ("MailPartsModel", "taskIn", "[I", true)
  | 42 => ("MailPartsModel", "parts", "I", false)
  | 43 => ("MailPartsModel", "partFrom", "[I", true)
  | 44 => ("MailPartsModel", "partTo", "[I", true)
  | 45 => ("MailPartsModel", "value", "[B", true)
  | 46 => ("MailPartsModel", "valueSize", "I", false)
  | 47 => ("MailPartsModel", "items", "I", false)
  | 48 => ("MailPartsModel", "from", "I", false)
  | 49 => ("MailPartsModel", "to", "I", false)
  | 50 => ("MailPartsModel", "itemFrom", "[I", true)
  | 51 => ("MailPartsModel", "itemTo", "[I", true)
  | 52 => ("MailPartsModel", "got", "[B", true)
  | 53 => ("MailPartsModel", "gotSize", "I", false)
  | 54 => ("MailPartsModel", "mark", "[B", true)
  | 55 => ("MailPartsModel", "markSize", "I", false)
  | _ => ("MailPartsModel", "asked", "[I", true)
def t_Mo : Nat → FieldType := fun k => match k with
  | 0 => .array .int
  | 1 => .array .int
  | 2 => .array .int
  | 3 => .array .int
  | 4 => .array .int
  | 5 => .array .int
  | 6 => .array .int
  | 7 => .array .int
  | 8 => .array .int
  | 9 => .array .int
  | 10 => .array .int
  | 11 => .array .int
  | 12 => .array .int
  | 13 => .array .int
  | 14 => .array .int
  | 15 => .array .int
  | 16 => .array .int
  | 17 => .array .byte
  | 18 => .array .byte
  | 19 => .int
  | 20 => .array .byte
  | 21 => .int
  | 22 => .boolean
  | 23 => .int
  | 24 => .array .int
  | 25 => .array .int
  | 26 => .int
  | 27 => .int
  | 28 => .array .int
  | 29 => .array .int
  | 30 => .array .int
  | 31 => .array .int
  | 32 => .array .int
  | 33 => .array .int
  | 34 => .array .int
  | 35 => .array .long
  | 36 => .long
  | 37 => .long
  | 38 => .int
  | 39 => .array .int
  | 40 => .array .int
  | 41 => .array .int
  | 42 => .int
  | 43 => .array .int
  | 44 => .array .int
  | 45 => .array .byte
  | 46 => .int
  | 47 => .int
  | 48 => .int
  | 49 => .int
  | 50 => .array .int
  | 51 => .array .int
  | 52 => .array .byte
  | 53 => .int
  | 54 => .array .byte
  | 55 => .int
  | _ => .array .int
abbrev vwCl : List vw_C := [("MailParts$Entity", T_En, 17), ("MailParts$Mail", T_Ma, 4), ("MailParts$Row", T_Ro, 2), ("MailParts$Value", T_Va, 1), ("MailParts", T_Mp, 16), ("MailPartsModel", T_Mo, 57)]
theorem n_En : ∀ a, a < 17 → ∀ b, b < 17 → a ≠ b → (T_En a).2.1 ≠ (T_En b).2.1 := by decide +kernel
theorem t_En_ok : ∀ k, k < 17 → parseFieldDescriptor (T_En k).2.2.1 = some (t_En k) := by decide +kernel
theorem n_Ma : ∀ a, a < 4 → ∀ b, b < 4 → a ≠ b → (T_Ma a).2.1 ≠ (T_Ma b).2.1 := by decide +kernel
theorem t_Ma_ok : ∀ k, k < 4 → parseFieldDescriptor (T_Ma k).2.2.1 = some (t_Ma k) := by decide +kernel
theorem n_Ro : ∀ a, a < 2 → ∀ b, b < 2 → a ≠ b → (T_Ro a).2.1 ≠ (T_Ro b).2.1 := by decide +kernel
theorem t_Ro_ok : ∀ k, k < 2 → parseFieldDescriptor (T_Ro k).2.2.1 = some (t_Ro k) := by decide +kernel
theorem n_Va : ∀ a, a < 1 → ∀ b, b < 1 → a ≠ b → (T_Va a).2.1 ≠ (T_Va b).2.1 := by decide +kernel
theorem t_Va_ok : ∀ k, k < 1 → parseFieldDescriptor (T_Va k).2.2.1 = some (t_Va k) := by decide +kernel
theorem n_Mp : ∀ a, a < 16 → ∀ b, b < 16 → a ≠ b → (T_Mp a).2.1 ≠ (T_Mp b).2.1 := by decide +kernel
theorem t_Mp_ok : ∀ k, k < 16 → parseFieldDescriptor (T_Mp k).2.2.1 = some (t_Mp k) := by decide +kernel
theorem n_Mo : ∀ a, a < 57 → ∀ b, b < 57 → a ≠ b → (T_Mo a).2.1 ≠ (T_Mo b).2.1 := by decide +kernel
theorem t_Mo_ok : ∀ k, k < 57 → parseFieldDescriptor (T_Mo k).2.2.1 = some (t_Mo k) := by decide +kernel
abbrev b_Mp_init : ByteArray := prog_1_method_1_code
def y_Mp_init : MethodName := ⟨"MailParts", "<init>", "()V"⟩
abbrev b_Mp_feed : ByteArray := prog_1_method_2_code
def y_Mp_feed : MethodName := ⟨"MailParts", "feed", "(IIIII)V"⟩
abbrev b_Mp_end : ByteArray := prog_1_method_3_code
def y_Mp_end : MethodName := ⟨"MailParts", "end", "(I)I"⟩
abbrev b_Mp_read : ByteArray := prog_1_method_4_code
def y_Mp_read : MethodName := ⟨"MailParts", "read", "()I"⟩
abbrev b_Mp_entity : ByteArray := prog_1_method_5_code
def y_Mp_entity : MethodName := ⟨"MailParts", "entity", "(II)I"⟩
abbrev b_Mp_length : ByteArray := prog_1_method_6_code
def y_Mp_length : MethodName := ⟨"MailParts", "length", "(II)I"⟩
abbrev b_Mp_at : ByteArray := prog_1_method_7_code
def y_Mp_at : MethodName := ⟨"MailParts", "at", "(III)I"⟩
abbrev b_Mp_field : ByteArray := prog_1_method_8_code
def y_Mp_field : MethodName := ⟨"MailParts", "field", "(I)I"⟩
abbrev b_Mp_parameter : ByteArray := prog_1_method_9_code
def y_Mp_parameter : MethodName := ⟨"MailParts", "parameter", "(I)I"⟩
abbrev b_Mp_byteAt : ByteArray := prog_1_method_10_code
def y_Mp_byteAt : MethodName := ⟨"MailParts", "byteAt", "(I)I"⟩
abbrev b_Mp_text : ByteArray := prog_1_method_11_code
def y_Mp_text : MethodName := ⟨"MailParts", "text", "(ZI)I"⟩
abbrev b_Mp_body : ByteArray := prog_1_method_12_code
def y_Mp_body : MethodName := ⟨"MailParts", "body", "(II)I"⟩
abbrev b_Mp_count : ByteArray := prog_1_method_13_code
def y_Mp_count : MethodName := ⟨"MailParts", "count", "(I)I"⟩
abbrev b_Mp_addWord : ByteArray := prog_1_method_14_code
def y_Mp_addWord : MethodName := ⟨"MailParts", "addWord", "(I)V"⟩
abbrev b_Mp_find : ByteArray := prog_1_method_15_code
def y_Mp_find : MethodName := ⟨"MailParts", "find", "(I)LMailParts$Entity;"⟩
abbrev b_Mp_answerOnTape : ByteArray := prog_1_method_16_code
def y_Mp_answerOnTape : MethodName := ⟨"MailParts", "answerOnTape", "(Z)I"⟩
abbrev b_Mp_countFields : ByteArray := prog_1_method_17_code
def y_Mp_countFields : MethodName := ⟨"MailParts", "countFields", "(LMailParts$Entity;)I"⟩
abbrev b_Mp_openEntity : ByteArray := prog_1_method_18_code
def y_Mp_openEntity : MethodName := ⟨"MailParts", "openEntity", "(IIII)V"⟩
abbrev b_Mp_openParts : ByteArray := prog_1_method_19_code
def y_Mp_openParts : MethodName := ⟨"MailParts", "openParts", "(LMailParts$Entity;II)V"⟩
abbrev b_Mp_describe : ByteArray := prog_1_method_20_code
def y_Mp_describe : MethodName := ⟨"MailParts", "describe", "(LMailParts$Entity;)V"⟩
abbrev b_Mp_hasBoundary : ByteArray := prog_1_method_21_code
def y_Mp_hasBoundary : MethodName := ⟨"MailParts", "hasBoundary", "(LMailParts$Entity;)Z"⟩
abbrev b_Mp_isOpenCoding : ByteArray := prog_1_method_22_code
def y_Mp_isOpenCoding : MethodName := ⟨"MailParts", "isOpenCoding", "(LMailParts$Entity;)Z"⟩
abbrev b_Mp_chooseTexts : ByteArray := prog_1_method_23_code
def y_Mp_chooseTexts : MethodName := ⟨"MailParts", "chooseTexts", "()V"⟩
abbrev b_Mp_listLeaves : ByteArray := prog_1_method_24_code
def y_Mp_listLeaves : MethodName := ⟨"MailParts", "listLeaves", "()V"⟩
abbrev b_Mp_loadWord : ByteArray := prog_1_method_25_code
def y_Mp_loadWord : MethodName := ⟨"MailParts", "loadWord", "(II)Z"⟩
abbrev b_Mp_loadType : ByteArray := prog_1_method_26_code
def y_Mp_loadType : MethodName := ⟨"MailParts", "loadType", "(LMailParts$Entity;)V"⟩
abbrev b_Mp_loadName : ByteArray := prog_1_method_27_code
def y_Mp_loadName : MethodName := ⟨"MailParts", "loadName", "(LMailParts$Entity;)V"⟩
abbrev b_Mp_loadField : ByteArray := prog_1_method_28_code
def y_Mp_loadField : MethodName := ⟨"MailParts", "loadField", "(LMailParts$Entity;LMailParts$Row;)Z"⟩
abbrev b_Mp_rowOf : ByteArray := prog_1_method_29_code
def y_Mp_rowOf : MethodName := ⟨"MailParts", "rowOf", "(Ljava/lang/String;)LMailParts$Row;"⟩
abbrev b_Mp_isBlank : ByteArray := prog_1_method_30_code
def y_Mp_isBlank : MethodName := ⟨"MailParts", "isBlank", "(I)Z"⟩
abbrev b_Mp_isNameByte : ByteArray := prog_1_method_31_code
def y_Mp_isNameByte : MethodName := ⟨"MailParts", "isNameByte", "(I)Z"⟩
abbrev b_Mp_small : ByteArray := prog_1_method_32_code
def y_Mp_small : MethodName := ⟨"MailParts", "small", "(I)I"⟩
abbrev b_Mo_init : ByteArray := prog_7_method_1_code
def y_Mo_init : MethodName := ⟨"MailPartsModel", "<init>", "()V"⟩
abbrev b_Mo_isBlank : ByteArray := prog_7_method_2_code
def y_Mo_isBlank : MethodName := ⟨"MailPartsModel", "isBlank", "(I)Z"⟩
abbrev b_Mo_small : ByteArray := prog_7_method_3_code
def y_Mo_small : MethodName := ⟨"MailPartsModel", "small", "(I)I"⟩
abbrev b_Mo_isName : ByteArray := prog_7_method_4_code
def y_Mo_isName : MethodName := ⟨"MailPartsModel", "isName", "(I)Z"⟩
abbrev b_Mo_split : ByteArray := prog_7_method_5_code
def y_Mo_split : MethodName := ⟨"MailPartsModel", "split", "()V"⟩
abbrev b_Mo_colon : ByteArray := prog_7_method_6_code
def y_Mo_colon : MethodName := ⟨"MailPartsModel", "colon", "(I)I"⟩
abbrev b_Mo_findHead : ByteArray := prog_7_method_7_code
def y_Mo_findHead : MethodName := ⟨"MailPartsModel", "findHead", "(I)V"⟩
abbrev b_Mo_isWord : ByteArray := prog_7_method_8_code
def y_Mo_isWord : MethodName := ⟨"MailPartsModel", "isWord", "([BII[II)Z"⟩
abbrev b_Mo_find : ByteArray := prog_7_method_9_code
def y_Mo_find : MethodName := ⟨"MailPartsModel", "find", "(I[II)Z"⟩
abbrev b_Mo_trim : ByteArray := prog_7_method_10_code
def y_Mo_trim : MethodName := ⟨"MailPartsModel", "trim", "(II)V"⟩
abbrev b_Mo_over : ByteArray := prog_7_method_11_code
def y_Mo_over : MethodName := ⟨"MailPartsModel", "over", "(II)I"⟩
abbrev b_Mo_itemize : ByteArray := prog_7_method_12_code
def y_Mo_itemize : MethodName := ⟨"MailPartsModel", "itemize", "()V"⟩
abbrev b_Mo_keep : ByteArray := prog_7_method_13_code
def y_Mo_keep : MethodName := ⟨"MailPartsModel", "keep", "(IIZ)V"⟩
abbrev b_Mo_nothing : ByteArray := prog_7_method_14_code
def y_Mo_nothing : MethodName := ⟨"MailPartsModel", "nothing", "()V"⟩
abbrev b_Mo_firstItem : ByteArray := prog_7_method_15_code
def y_Mo_firstItem : MethodName := ⟨"MailPartsModel", "firstItem", "(I[I)V"⟩
abbrev b_Mo_parameterOf : ByteArray := prog_7_method_16_code
def y_Mo_parameterOf : MethodName := ⟨"MailPartsModel", "parameterOf", "([II)Z"⟩
abbrev b_Mo_unquote : ByteArray := prog_7_method_17_code
def y_Mo_unquote : MethodName := ⟨"MailPartsModel", "unquote", "()V"⟩
abbrev b_Mo_isGot : ByteArray := prog_7_method_18_code
def y_Mo_isGot : MethodName := ⟨"MailPartsModel", "isGot", "([I)Z"⟩
abbrev b_Mo_begins : ByteArray := prog_7_method_19_code
def y_Mo_begins : MethodName := ⟨"MailPartsModel", "begins", "([I)Z"⟩
abbrev b_Mo_isType : ByteArray := prog_7_method_20_code
def y_Mo_isType : MethodName := ⟨"MailPartsModel", "isType", "()Z"⟩
abbrev b_Mo_set : ByteArray := prog_7_method_21_code
def y_Mo_set : MethodName := ⟨"MailPartsModel", "set", "([I)V"⟩
abbrev b_Mo_type : ByteArray := prog_7_method_22_code
def y_Mo_type : MethodName := ⟨"MailPartsModel", "type", "(I)V"⟩
abbrev b_Mo_called : ByteArray := prog_7_method_23_code
def y_Mo_called : MethodName := ⟨"MailPartsModel", "called", "(I)V"⟩
abbrev b_Mo_isHung : ByteArray := prog_7_method_24_code
def y_Mo_isHung : MethodName := ⟨"MailPartsModel", "isHung", "(I)Z"⟩
abbrev b_Mo_marked : ByteArray := prog_7_method_25_code
def y_Mo_marked : MethodName := ⟨"MailPartsModel", "marked", "(I)I"⟩
abbrev b_Mo_findParts : ByteArray := prog_7_method_26_code
def y_Mo_findParts : MethodName := ⟨"MailPartsModel", "findParts", "(I)V"⟩
abbrev b_Mo_add : ByteArray := prog_7_method_27_code
def y_Mo_add : MethodName := ⟨"MailPartsModel", "add", "(II)V"⟩
abbrev b_Mo_push : ByteArray := prog_7_method_28_code
def y_Mo_push : MethodName := ⟨"MailPartsModel", "push", "(III)V"⟩
abbrev b_Mo_isMulti : ByteArray := prog_7_method_29_code
def y_Mo_isMulti : MethodName := ⟨"MailPartsModel", "isMulti", "(I)Z"⟩
abbrev b_Mo_isEnclosed : ByteArray := prog_7_method_30_code
def y_Mo_isEnclosed : MethodName := ⟨"MailPartsModel", "isEnclosed", "(I)Z"⟩
abbrev b_Mo_look : ByteArray := prog_7_method_31_code
def y_Mo_look : MethodName := ⟨"MailPartsModel", "look", "(I)V"⟩
abbrev b_Mo_build : ByteArray := prog_7_method_32_code
def y_Mo_build : MethodName := ⟨"MailPartsModel", "build", "()V"⟩
abbrev b_Mo_alternative : ByteArray := prog_7_method_33_code
def y_Mo_alternative : MethodName := ⟨"MailPartsModel", "alternative", "(I)J"⟩
abbrev b_Mo_findTexts : ByteArray := prog_7_method_34_code
def y_Mo_findTexts : MethodName := ⟨"MailPartsModel", "findTexts", "()V"⟩
abbrev b_Mo_isHanging : ByteArray := prog_7_method_35_code
def y_Mo_isHanging : MethodName := ⟨"MailPartsModel", "isHanging", "(I)Z"⟩
abbrev b_Mo_feed : ByteArray := prog_7_method_36_code
def y_Mo_feed : MethodName := ⟨"MailPartsModel", "feed", "(IIIII)V"⟩
abbrev b_Mo_end : ByteArray := prog_7_method_37_code
def y_Mo_end : MethodName := ⟨"MailPartsModel", "end", "(I)I"⟩
abbrev b_Mo_read : ByteArray := prog_7_method_38_code
def y_Mo_read : MethodName := ⟨"MailPartsModel", "read", "()I"⟩
abbrev b_Mo_isThere : ByteArray := prog_7_method_39_code
def y_Mo_isThere : MethodName := ⟨"MailPartsModel", "isThere", "(I)Z"⟩
abbrev b_Mo_place : ByteArray := prog_7_method_40_code
def y_Mo_place : MethodName := ⟨"MailPartsModel", "place", "(I)I"⟩
abbrev b_Mo_children : ByteArray := prog_7_method_41_code
def y_Mo_children : MethodName := ⟨"MailPartsModel", "children", "(I)I"⟩
abbrev b_Mo_fields : ByteArray := prog_7_method_42_code
def y_Mo_fields : MethodName := ⟨"MailPartsModel", "fields", "(I)I"⟩
abbrev b_Mo_isAlike : ByteArray := prog_7_method_43_code
def y_Mo_isAlike : MethodName := ⟨"MailPartsModel", "isAlike", "(II)Z"⟩
abbrev b_Mo_entity : ByteArray := prog_7_method_44_code
def y_Mo_entity : MethodName := ⟨"MailPartsModel", "entity", "(II)I"⟩
abbrev b_Mo_tell : ByteArray := prog_7_method_45_code
def y_Mo_tell : MethodName := ⟨"MailPartsModel", "tell", "(II)Z"⟩
abbrev b_Mo_length : ByteArray := prog_7_method_46_code
def y_Mo_length : MethodName := ⟨"MailPartsModel", "length", "(II)I"⟩
abbrev b_Mo_at : ByteArray := prog_7_method_47_code
def y_Mo_at : MethodName := ⟨"MailPartsModel", "at", "(III)I"⟩
abbrev b_Mo_ask : ByteArray := prog_7_method_48_code
def y_Mo_ask : MethodName := ⟨"MailPartsModel", "ask", "()I"⟩
abbrev b_Mo_field : ByteArray := prog_7_method_49_code
def y_Mo_field : MethodName := ⟨"MailPartsModel", "field", "(I)I"⟩
abbrev b_Mo_parameter : ByteArray := prog_7_method_50_code
def y_Mo_parameter : MethodName := ⟨"MailPartsModel", "parameter", "(I)I"⟩
abbrev b_Mo_byteAt : ByteArray := prog_7_method_51_code
def y_Mo_byteAt : MethodName := ⟨"MailPartsModel", "byteAt", "(I)I"⟩
abbrev b_Mo_isListed : ByteArray := prog_7_method_52_code
def y_Mo_isListed : MethodName := ⟨"MailPartsModel", "isListed", "(IZ)Z"⟩
abbrev b_Mo_text : ByteArray := prog_7_method_53_code
def y_Mo_text : MethodName := ⟨"MailPartsModel", "text", "(ZI)I"⟩
abbrev b_Mo_body : ByteArray := prog_7_method_54_code
def y_Mo_body : MethodName := ⟨"MailPartsModel", "body", "(II)I"⟩
abbrev b_Mo_put : ByteArray := prog_7_method_55_code
def y_Mo_put : MethodName := ⟨"MailPartsModel", "put", "(II)V"⟩
abbrev b_Mo_count : ByteArray := prog_7_method_56_code
def y_Mo_count : MethodName := ⟨"MailPartsModel", "count", "(I)I"⟩
abbrev b_En_init : ByteArray := prog_2_method_1_code
def y_En_init : MethodName := ⟨"MailParts$Entity", "<init>", "()V"⟩
abbrev b_Ma_init : ByteArray := prog_3_method_1_code
def y_Ma_init : MethodName := ⟨"MailParts$Mail", "<init>", "()V"⟩
abbrev b_Ma_take : ByteArray := prog_3_method_2_code
def y_Ma_take : MethodName := ⟨"MailParts$Mail", "take", "(LMailParts$Row;)V"⟩
abbrev b_Ma_addLine : ByteArray := prog_3_method_3_code
def y_Ma_addLine : MethodName := ⟨"MailParts$Mail", "addLine", "(II)V"⟩
abbrev b_Ma_startOf : ByteArray := prog_3_method_4_code
def y_Ma_startOf : MethodName := ⟨"MailParts$Mail", "startOf", "(I)I"⟩
abbrev b_Ma_stopOf : ByteArray := prog_3_method_5_code
def y_Ma_stopOf : MethodName := ⟨"MailParts$Mail", "stopOf", "(I)I"⟩
abbrev b_Ma_isEmptyLine : ByteArray := prog_3_method_6_code
def y_Ma_isEmptyLine : MethodName := ⟨"MailParts$Mail", "isEmptyLine", "(I)Z"⟩
abbrev b_Ma_beginsBlank : ByteArray := prog_3_method_7_code
def y_Ma_beginsBlank : MethodName := ⟨"MailParts$Mail", "beginsBlank", "(I)Z"⟩
abbrev b_Ma_colonOf : ByteArray := prog_3_method_8_code
def y_Ma_colonOf : MethodName := ⟨"MailParts$Mail", "colonOf", "(I)I"⟩
abbrev b_Ma_headStop : ByteArray := prog_3_method_9_code
def y_Ma_headStop : MethodName := ⟨"MailParts$Mail", "headStop", "(II)I"⟩
abbrev b_Ma_fieldLine : ByteArray := prog_3_method_10_code
def y_Ma_fieldLine : MethodName := ⟨"MailParts$Mail", "fieldLine", "(IILMailParts$Row;)I"⟩
abbrev b_Ma_copyValue : ByteArray := prog_3_method_11_code
def y_Ma_copyValue : MethodName := ⟨"MailParts$Mail", "copyValue", "(IILMailParts$Row;)V"⟩
abbrev b_Ma_copyLines : ByteArray := prog_3_method_12_code
def y_Ma_copyLines : MethodName := ⟨"MailParts$Mail", "copyLines", "(IILMailParts$Row;)V"⟩
abbrev b_Ma_markOf : ByteArray := prog_3_method_13_code
def y_Ma_markOf : MethodName := ⟨"MailParts$Mail", "markOf", "(ILMailParts$Row;)I"⟩
abbrev b_Ma_hasDashes : ByteArray := prog_3_method_14_code
def y_Ma_hasDashes : MethodName := ⟨"MailParts$Mail", "hasDashes", "(II)Z"⟩
abbrev b_Ro_init : ByteArray := prog_4_method_1_code
def y_Ro_init : MethodName := ⟨"MailParts$Row", "<init>", "(I)V"⟩
abbrev b_Ro_get : ByteArray := prog_4_method_2_code
def y_Ro_get : MethodName := ⟨"MailParts$Row", "get", "(I)I"⟩
abbrev b_Ro_clear : ByteArray := prog_4_method_3_code
def y_Ro_clear : MethodName := ⟨"MailParts$Row", "clear", "()V"⟩
abbrev b_Ro_add : ByteArray := prog_4_method_4_code
def y_Ro_add : MethodName := ⟨"MailParts$Row", "add", "(I)V"⟩
abbrev b_Ro_set : ByteArray := prog_4_method_5_code
def y_Ro_set : MethodName := ⟨"MailParts$Row", "set", "(II)V"⟩
abbrev b_Ro_shorten : ByteArray := prog_4_method_6_code
def y_Ro_shorten : MethodName := ⟨"MailParts$Row", "shorten", "(I)V"⟩
abbrev b_Ro_addRange : ByteArray := prog_4_method_7_code
def y_Ro_addRange : MethodName := ⟨"MailParts$Row", "addRange", "(LMailParts$Row;II)V"⟩
abbrev b_Ro_put : ByteArray := prog_4_method_8_code
def y_Ro_put : MethodName := ⟨"MailParts$Row", "put", "(Ljava/lang/String;)V"⟩
abbrev b_Ro_begins : ByteArray := prog_4_method_9_code
def y_Ro_begins : MethodName := ⟨"MailParts$Row", "begins", "(Ljava/lang/String;)Z"⟩
abbrev b_Ro_is : ByteArray := prog_4_method_10_code
def y_Ro_is : MethodName := ⟨"MailParts$Row", "is", "(Ljava/lang/String;)Z"⟩
abbrev b_Ro_hasName : ByteArray := prog_4_method_11_code
def y_Ro_hasName : MethodName := ⟨"MailParts$Row", "hasName", "(ILMailParts$Row;)Z"⟩
abbrev b_Va_init : ByteArray := prog_5_method_1_code
def y_Va_init : MethodName := ⟨"MailParts$Value", "<init>", "()V"⟩
abbrev b_Va_keepFirstItem : ByteArray := prog_5_method_2_code
def y_Va_keepFirstItem : MethodName := ⟨"MailParts$Value", "keepFirstItem", "()V"⟩
abbrev b_Va_keepParameter : ByteArray := prog_5_method_3_code
def y_Va_keepParameter : MethodName := ⟨"MailParts$Value", "keepParameter", "(LMailParts$Row;)Z"⟩
abbrev b_Va_isType : ByteArray := prog_5_method_4_code
def y_Va_isType : MethodName := ⟨"MailParts$Value", "isType", "()Z"⟩
abbrev b_Va_find : ByteArray := prog_5_method_5_code
def y_Va_find : MethodName := ⟨"MailParts$Value", "find", "(III)I"⟩
abbrev b_Va_isNamed : ByteArray := prog_5_method_6_code
def y_Va_isNamed : MethodName := ⟨"MailParts$Value", "isNamed", "(IILMailParts$Row;)Z"⟩
abbrev b_Va_behindBlanks : ByteArray := prog_5_method_7_code
def y_Va_behindBlanks : MethodName := ⟨"MailParts$Value", "behindBlanks", "(II)I"⟩
abbrev b_Va_aheadOfBlanks : ByteArray := prog_5_method_8_code
def y_Va_aheadOfBlanks : MethodName := ⟨"MailParts$Value", "aheadOfBlanks", "(II)I"⟩
abbrev b_Va_keep : ByteArray := prog_5_method_9_code
def y_Va_keep : MethodName := ⟨"MailParts$Value", "keep", "(II)V"⟩
abbrev b_Va_unquote : ByteArray := prog_5_method_10_code
def y_Va_unquote : MethodName := ⟨"MailParts$Value", "unquote", "()V"⟩
abbrev b_Va_closing : ByteArray := prog_5_method_11_code
def y_Va_closing : MethodName := ⟨"MailParts$Value", "closing", "()I"⟩
end
section
theorem xm_1 {w : Cond} (h : w ∈ tables_1_1) : w ∈ lw_tbl := List.mem_append_right _ (List.mem_append_left _ h)
theorem xm_2 {w : Cond} (h : w ∈ tables_1_2) : w ∈ lw_tbl := List.mem_append_right _ (List.mem_append_right _ (List.mem_append_left _ h))
theorem xm_3 {w : Cond} (h : w ∈ tables_1_3) : w ∈ lw_tbl := List.mem_append_right _ (List.mem_append_right _ (List.mem_append_right _ (List.mem_append_left _ h)))
theorem xm_4 {w : Cond} (h : w ∈ tables_1_4) : w ∈ lw_tbl := List.mem_append_right _ (List.mem_append_right _ (List.mem_append_right _ (List.mem_append_right _ h)))
theorem xm_s {q : MethodName × Nat} (h : q ∈ lw_privs) : Cond.selects q.1.cls q.1 q.1 ∈ lw_tbl := List.mem_append_left _ (List.mem_map.mpr ⟨q, h, rfl⟩)
theorem kw_0 : Cond.initialized "MailPartsLaw" ∈ lw_tbl := xm_1 (List.mem_of_getElem? (i := 0) rfl)
theorem kw_1 : Cond.initialized "MailParts" ∈ lw_tbl := xm_1 (List.mem_of_getElem? (i := 1) rfl)
theorem kw_2 : Cond.initialized "MailParts$Row" ∈ lw_tbl := xm_1 (List.mem_of_getElem? (i := 2) rfl)
theorem kw_3 : Cond.initialized "java/lang/Math" ∈ lw_tbl := xm_1 (List.mem_of_getElem? (i := 3) rfl)
theorem kw_4 : Cond.initialized "MailParts$Mail" ∈ lw_tbl := xm_1 (List.mem_of_getElem? (i := 4) rfl)
theorem kw_5 : Cond.initialized "MailParts$Value" ∈ lw_tbl := xm_1 (List.mem_of_getElem? (i := 5) rfl)
theorem kw_6 : Cond.initialized "java/lang/String" ∈ lw_tbl := xm_1 (List.mem_of_getElem? (i := 6) rfl)
theorem kw_7 : Cond.initialized "java/lang/StringLatin1" ∈ lw_tbl := xm_1 (List.mem_of_getElem? (i := 7) rfl)
theorem kw_8 : Cond.initialized "jdk/internal/util/Preconditions" ∈ lw_tbl := xm_1 (List.mem_of_getElem? (i := 8) rfl)
theorem kw_9 : Cond.initialized "java/lang/StringUTF16" ∈ lw_tbl := xm_1 (List.mem_of_getElem? (i := 9) rfl)
theorem kw_10 : Cond.initialized "MailParts$Entity" ∈ lw_tbl := xm_1 (List.mem_of_getElem? (i := 10) rfl)
theorem kw_11 : Cond.initialized "MailPartsModel" ∈ lw_tbl := xm_1 (List.mem_of_getElem? (i := 11) rfl)
theorem kw_12 : Cond.classLink "MailPartsLaw" 7 "MailParts" ∈ lw_tbl := xm_1 (List.mem_of_getElem? (i := 12) rfl)
theorem kw_13 : Cond.instantiable "MailParts" 16 ∈ lw_tbl := xm_1 (List.mem_of_getElem? (i := 13) rfl)
theorem kw_14 : Cond.methodLink "MailPartsLaw" 9 y_Mp_init ∈ lw_tbl := xm_1 (List.mem_of_getElem? (i := 14) rfl)
theorem kw_15 : Cond.instanceMethod y_Mp_init ∈ lw_tbl := xm_1 (List.mem_of_getElem? (i := 15) rfl)
theorem kw_16 : Cond.code y_Mp_init prog_1_method_1_code 2 none ∈ lw_tbl := xm_1 (List.mem_of_getElem? (i := 16) rfl)
theorem kw_17 : Cond.methodLink "MailParts" 1 ⟨"java/lang/Object", "<init>", "()V"⟩ ∈ lw_tbl := xm_1 (List.mem_of_getElem? (i := 17) rfl)
theorem kw_18 : Cond.instanceMethod ⟨"java/lang/Object", "<init>", "()V"⟩ ∈ lw_tbl := xm_1 (List.mem_of_getElem? (i := 18) rfl)
theorem kw_19 : Cond.code ⟨"java/lang/Object", "<init>", "()V"⟩ object_method_1_code 1 none ∈ lw_tbl := xm_1 (List.mem_of_getElem? (i := 19) rfl)
theorem kw_20 : Cond.classLink "MailParts" 7 "MailParts$Row" ∈ lw_tbl := xm_1 (List.mem_of_getElem? (i := 20) rfl)
theorem kw_21 : Cond.instantiable "MailParts$Row" 2 ∈ lw_tbl := xm_1 (List.mem_of_getElem? (i := 21) rfl)
theorem kw_22 : Cond.methodLink "MailParts" 11 y_Ro_init ∈ lw_tbl := xm_1 (List.mem_of_getElem? (i := 22) rfl)
theorem kw_23 : Cond.instanceMethod y_Ro_init ∈ lw_tbl := xm_1 (List.mem_of_getElem? (i := 23) rfl)
theorem kw_24 : Cond.code y_Ro_init prog_4_method_1_code 2 none ∈ lw_tbl := xm_1 (List.mem_of_getElem? (i := 24) rfl)
theorem kw_25 : Cond.methodLink "MailParts$Row" 3 ⟨"java/lang/Object", "<init>", "()V"⟩ ∈ lw_tbl := xm_1 (List.mem_of_getElem? (i := 25) rfl)
theorem kw_26 : Cond.methodLink "MailParts$Row" 9 ⟨"java/lang/Math", "max", "(II)I"⟩ ∈ lw_tbl := xm_1 (List.mem_of_getElem? (i := 26) rfl)
theorem kw_27 : Cond.static ⟨"java/lang/Math", "max", "(II)I"⟩ ∈ lw_tbl := xm_1 (List.mem_of_getElem? (i := 27) rfl)
theorem kw_28 : Cond.code ⟨"java/lang/Math", "max", "(II)I"⟩ prog_8_method_65_code 2 (some FieldType.int) ∈ lw_tbl := xm_1 (List.mem_of_getElem? (i := 28) rfl)
theorem kw_29 : Cond.fieldLink "MailParts$Row" 15 "MailParts$Row" "numbers" "[I" ∈ lw_tbl := xm_1 (List.mem_of_getElem? (i := 29) rfl)
theorem kw_30 : Cond.fieldLink "MailParts$Row" 21 "MailParts$Row" "size" "I" ∈ lw_tbl := xm_1 (List.mem_of_getElem? (i := 30) rfl)
theorem kw_31 : Cond.fieldLinkNest "MailParts$Value" 20 "MailParts$Row" "size" "I" "MailParts" ∈ lw_tbl := xm_1 (List.mem_of_getElem? (i := 31) rfl)
theorem kw_32 : Cond.fieldLinkNest "MailParts$Mail" 34 "MailParts$Row" "size" "I" "MailParts" ∈ lw_tbl := xm_1 (List.mem_of_getElem? (i := 32) rfl)
theorem kw_33 : Cond.fieldLinkNest "MailParts" 99 "MailParts$Row" "size" "I" "MailParts" ∈ lw_tbl := xm_1 (List.mem_of_getElem? (i := 33) rfl)
theorem kw_34 : Cond.laysFinal "MailParts$Row" "MailParts$Row" "numbers" "[I" ∈ lw_tbl := xm_1 (List.mem_of_getElem? (i := 34) rfl)
theorem kw_36 : Cond.lays "MailParts$Row" "MailParts$Row" "size" "I" ∈ lw_tbl := xm_1 (List.mem_of_getElem? (i := 36) rfl)
theorem kw_39 : Cond.arrayClass FieldType.int ∈ lw_tbl := xm_1 (List.mem_of_getElem? (i := 39) rfl)
theorem kw_40 : Cond.classLink "MailParts" 21 "MailParts$Mail" ∈ lw_tbl := xm_1 (List.mem_of_getElem? (i := 40) rfl)
theorem kw_41 : Cond.instantiable "MailParts$Mail" 4 ∈ lw_tbl := xm_1 (List.mem_of_getElem? (i := 41) rfl)
theorem kw_42 : Cond.methodLink "MailParts" 23 y_Ma_init ∈ lw_tbl := xm_1 (List.mem_of_getElem? (i := 42) rfl)
theorem kw_43 : Cond.instanceMethod y_Ma_init ∈ lw_tbl := xm_1 (List.mem_of_getElem? (i := 43) rfl)
theorem kw_44 : Cond.code y_Ma_init prog_3_method_1_code 1 none ∈ lw_tbl := xm_1 (List.mem_of_getElem? (i := 44) rfl)
theorem kw_45 : Cond.methodLink "MailParts$Mail" 3 ⟨"java/lang/Object", "<init>", "()V"⟩ ∈ lw_tbl := xm_1 (List.mem_of_getElem? (i := 45) rfl)
theorem kw_46 : Cond.classLink "MailParts$Mail" 9 "MailParts$Row" ∈ lw_tbl := xm_1 (List.mem_of_getElem? (i := 46) rfl)
theorem kw_47 : Cond.methodLink "MailParts$Mail" 11 y_Ro_init ∈ lw_tbl := xm_1 (List.mem_of_getElem? (i := 47) rfl)
theorem kw_48 : Cond.fieldLink "MailParts$Mail" 14 "MailParts$Mail" "bytes" "LMailParts$Row;" ∈ lw_tbl := xm_1 (List.mem_of_getElem? (i := 48) rfl)
theorem kw_49 : Cond.fieldLinkNest "MailParts" 161 "MailParts$Mail" "bytes" "LMailParts$Row;" "MailParts" ∈ lw_tbl := xm_1 (List.mem_of_getElem? (i := 49) rfl)
theorem kw_50 : Cond.fieldLink "MailParts$Mail" 20 "MailParts$Mail" "starts" "[I" ∈ lw_tbl := xm_1 (List.mem_of_getElem? (i := 50) rfl)
theorem kw_51 : Cond.fieldLink "MailParts$Mail" 24 "MailParts$Mail" "stops" "[I" ∈ lw_tbl := xm_1 (List.mem_of_getElem? (i := 51) rfl)
theorem kw_52 : Cond.fieldLink "MailParts$Mail" 27 "MailParts$Mail" "lines" "I" ∈ lw_tbl := xm_1 (List.mem_of_getElem? (i := 52) rfl)
theorem kw_53 : Cond.fieldLinkNest "MailParts" 119 "MailParts$Mail" "lines" "I" "MailParts" ∈ lw_tbl := xm_1 (List.mem_of_getElem? (i := 53) rfl)
theorem kw_54 : Cond.laysFinal "MailParts$Mail" "MailParts$Mail" "bytes" "LMailParts$Row;" ∈ lw_tbl := xm_1 (List.mem_of_getElem? (i := 54) rfl)
theorem kw_56 : Cond.laysFinal "MailParts$Mail" "MailParts$Mail" "starts" "[I" ∈ lw_tbl := xm_1 (List.mem_of_getElem? (i := 56) rfl)
theorem kw_58 : Cond.laysFinal "MailParts$Mail" "MailParts$Mail" "stops" "[I" ∈ lw_tbl := xm_1 (List.mem_of_getElem? (i := 58) rfl)
theorem kw_60 : Cond.lays "MailParts$Mail" "MailParts$Mail" "lines" "I" ∈ lw_tbl := xm_1 (List.mem_of_getElem? (i := 60) rfl)
theorem kw_63 : Cond.classLink "MailParts" 28 "MailParts$Value" ∈ lw_tbl := xm_1 (List.mem_of_getElem? (i := 63) rfl)
theorem kw_64 : Cond.instantiable "MailParts$Value" 1 ∈ lw_tbl := xm_1 (List.mem_of_getElem? (i := 64) rfl)
theorem kw_65 : Cond.methodLink "MailParts" 30 y_Va_init ∈ lw_tbl := xm_1 (List.mem_of_getElem? (i := 65) rfl)
theorem kw_66 : Cond.instanceMethod y_Va_init ∈ lw_tbl := xm_1 (List.mem_of_getElem? (i := 66) rfl)
theorem kw_67 : Cond.code y_Va_init prog_5_method_1_code 1 none ∈ lw_tbl := xm_1 (List.mem_of_getElem? (i := 67) rfl)
theorem kw_68 : Cond.methodLink "MailParts$Value" 3 ⟨"java/lang/Object", "<init>", "()V"⟩ ∈ lw_tbl := xm_1 (List.mem_of_getElem? (i := 68) rfl)
theorem kw_69 : Cond.classLink "MailParts$Value" 9 "MailParts$Row" ∈ lw_tbl := xm_1 (List.mem_of_getElem? (i := 69) rfl)
theorem kw_70 : Cond.methodLink "MailParts$Value" 11 y_Ro_init ∈ lw_tbl := xm_1 (List.mem_of_getElem? (i := 70) rfl)
theorem kw_71 : Cond.fieldLink "MailParts$Value" 14 "MailParts$Value" "bytes" "LMailParts$Row;" ∈ lw_tbl := xm_1 (List.mem_of_getElem? (i := 71) rfl)
theorem kw_72 : Cond.fieldLinkNest "MailParts" 178 "MailParts$Value" "bytes" "LMailParts$Row;" "MailParts" ∈ lw_tbl := xm_1 (List.mem_of_getElem? (i := 72) rfl)
theorem kw_73 : Cond.laysFinal "MailParts$Value" "MailParts$Value" "bytes" "LMailParts$Row;" ∈ lw_tbl := xm_1 (List.mem_of_getElem? (i := 73) rfl)
theorem kw_76 : Cond.stringRef "MailParts" 35 "content-type" ∈ lw_tbl := xm_1 (List.mem_of_getElem? (i := 76) rfl)
theorem kw_77 : Cond.methodLink "MailParts" 37 y_Mp_rowOf ∈ lw_tbl := xm_1 (List.mem_of_getElem? (i := 77) rfl)
theorem kw_78 : Cond.static y_Mp_rowOf ∈ lw_tbl := xm_1 (List.mem_of_getElem? (i := 78) rfl)
theorem kw_79 : Cond.code y_Mp_rowOf prog_1_method_29_code 2 (some (FieldType.object "MailParts$Row")) ∈ lw_tbl := xm_1 (List.mem_of_getElem? (i := 79) rfl)
theorem kw_80 : Cond.methodLink "MailParts" 305 ⟨"java/lang/String", "length", "()I"⟩ ∈ lw_tbl := xm_1 (List.mem_of_getElem? (i := 80) rfl)
theorem kw_81 : Cond.instanceMethod ⟨"java/lang/String", "length", "()I"⟩ ∈ lw_tbl := xm_1 (List.mem_of_getElem? (i := 81) rfl)
theorem kw_82 : Cond.selects "java/lang/String" ⟨"java/lang/String", "length", "()I"⟩ ⟨"java/lang/String", "length", "()I"⟩ ∈ lw_tbl := xm_1 (List.mem_of_getElem? (i := 82) rfl)
theorem kw_83 : Cond.code ⟨"java/lang/String", "length", "()I"⟩ prog_9_method_54_code 1 (some FieldType.int) ∈ lw_tbl := xm_1 (List.mem_of_getElem? (i := 83) rfl)
theorem kw_84 : Cond.methodLink "java/lang/String" 335 ⟨"java/lang/String", "coder", "()B"⟩ ∈ lw_tbl := xm_1 (List.mem_of_getElem? (i := 84) rfl)
theorem kw_85 : Cond.instanceMethod ⟨"java/lang/String", "coder", "()B"⟩ ∈ lw_tbl := xm_1 (List.mem_of_getElem? (i := 85) rfl)
theorem kw_86 : Cond.selects "java/lang/String" ⟨"java/lang/String", "coder", "()B"⟩ ⟨"java/lang/String", "coder", "()B"⟩ ∈ lw_tbl := xm_1 (List.mem_of_getElem? (i := 86) rfl)
theorem kw_87 : Cond.code ⟨"java/lang/String", "coder", "()B"⟩ prog_9_method_152_code 1 (some FieldType.byte) ∈ lw_tbl := xm_1 (List.mem_of_getElem? (i := 87) rfl)
theorem kw_88 : Cond.fieldLink "java/lang/String" 38 "java/lang/String" "COMPACT_STRINGS" "Z" ∈ lw_tbl := xm_1 (List.mem_of_getElem? (i := 88) rfl)
theorem kw_89 : Cond.laysStatic "java/lang/String" "COMPACT_STRINGS" "Z" ∈ lw_tbl := xm_1 (List.mem_of_getElem? (i := 89) rfl)
theorem kw_90 : Cond.methodLink "MailParts" 298 y_Ro_put ∈ lw_tbl := xm_1 (List.mem_of_getElem? (i := 90) rfl)
theorem kw_91 : Cond.instanceMethod y_Ro_put ∈ lw_tbl := xm_1 (List.mem_of_getElem? (i := 91) rfl)
theorem kw_92 : Cond.selects "MailParts$Row" y_Ro_put y_Ro_put ∈ lw_tbl := xm_1 (List.mem_of_getElem? (i := 92) rfl)
theorem kw_93 : Cond.code y_Ro_put prog_4_method_8_code 3 none ∈ lw_tbl := xm_1 (List.mem_of_getElem? (i := 93) rfl)
theorem kw_94 : Cond.methodLink "MailParts$Row" 36 y_Ro_clear ∈ lw_tbl := xm_1 (List.mem_of_getElem? (i := 94) rfl)
theorem kw_95 : Cond.instanceMethod y_Ro_clear ∈ lw_tbl := xm_1 (List.mem_of_getElem? (i := 95) rfl)
theorem kw_96 : Cond.selects "MailParts$Row" y_Ro_clear y_Ro_clear ∈ lw_tbl := xm_1 (List.mem_of_getElem? (i := 96) rfl)
theorem kw_97 : Cond.code y_Ro_clear prog_4_method_3_code 1 none ∈ lw_tbl := xm_1 (List.mem_of_getElem? (i := 97) rfl)
theorem kw_98 : Cond.methodLink "MailParts$Row" 39 ⟨"java/lang/String", "length", "()I"⟩ ∈ lw_tbl := xm_1 (List.mem_of_getElem? (i := 98) rfl)
theorem kw_99 : Cond.methodLink "MailParts$Row" 45 ⟨"java/lang/String", "charAt", "(I)C"⟩ ∈ lw_tbl := xm_1 (List.mem_of_getElem? (i := 99) rfl)
theorem kw_100 : Cond.instanceMethod ⟨"java/lang/String", "charAt", "(I)C"⟩ ∈ lw_tbl := xm_1 (List.mem_of_getElem? (i := 100) rfl)
theorem kw_101 : Cond.selects "java/lang/String" ⟨"java/lang/String", "charAt", "(I)C"⟩ ⟨"java/lang/String", "charAt", "(I)C"⟩ ∈ lw_tbl := xm_1 (List.mem_of_getElem? (i := 101) rfl)
theorem kw_102 : Cond.code ⟨"java/lang/String", "charAt", "(I)C"⟩ prog_9_method_56_code 2 (some FieldType.char) ∈ lw_tbl := xm_1 (List.mem_of_getElem? (i := 102) rfl)
theorem kw_103 : Cond.methodLink "java/lang/String" 492 ⟨"java/lang/String", "isLatin1", "()Z"⟩ ∈ lw_tbl := xm_1 (List.mem_of_getElem? (i := 103) rfl)
theorem kw_104 : Cond.instanceMethod ⟨"java/lang/String", "isLatin1", "()Z"⟩ ∈ lw_tbl := xm_1 (List.mem_of_getElem? (i := 104) rfl)
theorem kw_105 : Cond.selects "java/lang/String" ⟨"java/lang/String", "isLatin1", "()Z"⟩ ⟨"java/lang/String", "isLatin1", "()Z"⟩ ∈ lw_tbl := xm_1 (List.mem_of_getElem? (i := 105) rfl)
theorem kw_106 : Cond.code ⟨"java/lang/String", "isLatin1", "()Z"⟩ prog_9_method_154_code 1 (some FieldType.boolean) ∈ lw_tbl := xm_1 (List.mem_of_getElem? (i := 106) rfl)
theorem kw_107 : Cond.methodLink "java/lang/String" 495 ⟨"java/lang/StringLatin1", "charAt", "([BI)C"⟩ ∈ lw_tbl := xm_1 (List.mem_of_getElem? (i := 107) rfl)
theorem kw_108 : Cond.static ⟨"java/lang/StringLatin1", "charAt", "([BI)C"⟩ ∈ lw_tbl := xm_1 (List.mem_of_getElem? (i := 108) rfl)
theorem kw_109 : Cond.code ⟨"java/lang/StringLatin1", "charAt", "([BI)C"⟩ prog_10_method_2_code 2 (some FieldType.char) ∈ lw_tbl := xm_1 (List.mem_of_getElem? (i := 109) rfl)
theorem kw_110 : Cond.methodLink "java/lang/StringLatin1" 9 ⟨"java/lang/String", "checkIndex", "(II)V"⟩ ∈ lw_tbl := xm_1 (List.mem_of_getElem? (i := 110) rfl)
theorem kw_111 : Cond.static ⟨"java/lang/String", "checkIndex", "(II)V"⟩ ∈ lw_tbl := xm_1 (List.mem_of_getElem? (i := 111) rfl)
theorem kw_112 : Cond.code ⟨"java/lang/String", "checkIndex", "(II)V"⟩ prog_9_method_155_code 2 none ∈ lw_tbl := xm_1 (List.mem_of_getElem? (i := 112) rfl)
theorem kw_113 : Cond.fieldLink "java/lang/String" 1053 "jdk/internal/util/Preconditions" "SIOOBE_FORMATTER" "Ljava/util/function/BiFunction;" ∈ lw_tbl := xm_1 (List.mem_of_getElem? (i := 113) rfl)
theorem kw_114 : Cond.laysStatic "jdk/internal/util/Preconditions" "SIOOBE_FORMATTER" "Ljava/util/function/BiFunction;" ∈ lw_tbl := xm_1 (List.mem_of_getElem? (i := 114) rfl)
theorem kw_115 : Cond.methodLink "java/lang/String" 1059 ⟨"jdk/internal/util/Preconditions", "checkIndex", "(IILjava/util/function/BiFunction;)I"⟩ ∈ lw_tbl := xm_1 (List.mem_of_getElem? (i := 115) rfl)
theorem kw_116 : Cond.static ⟨"jdk/internal/util/Preconditions", "checkIndex", "(IILjava/util/function/BiFunction;)I"⟩ ∈ lw_tbl := xm_1 (List.mem_of_getElem? (i := 116) rfl)
theorem kw_117 : Cond.code ⟨"jdk/internal/util/Preconditions", "checkIndex", "(IILjava/util/function/BiFunction;)I"⟩ prog_12_method_11_code 3 (some FieldType.int) ∈ lw_tbl := xm_1 (List.mem_of_getElem? (i := 117) rfl)
theorem kw_118 : Cond.methodLink "java/lang/String" 498 ⟨"java/lang/StringUTF16", "charAt", "([BI)C"⟩ ∈ lw_tbl := xm_1 (List.mem_of_getElem? (i := 118) rfl)
theorem kw_119 : Cond.static ⟨"java/lang/StringUTF16", "charAt", "([BI)C"⟩ ∈ lw_tbl := xm_1 (List.mem_of_getElem? (i := 119) rfl)
theorem kw_120 : Cond.code ⟨"java/lang/StringUTF16", "charAt", "([BI)C"⟩ prog_11_method_83_code 2 (some FieldType.char) ∈ lw_tbl := xm_1 (List.mem_of_getElem? (i := 120) rfl)
theorem kw_121 : Cond.methodLink "java/lang/StringUTF16" 67 ⟨"java/lang/StringUTF16", "checkIndex", "(I[B)V"⟩ ∈ lw_tbl := xm_1 (List.mem_of_getElem? (i := 121) rfl)
theorem kw_122 : Cond.static ⟨"java/lang/StringUTF16", "checkIndex", "(I[B)V"⟩ ∈ lw_tbl := xm_1 (List.mem_of_getElem? (i := 122) rfl)
theorem kw_123 : Cond.code ⟨"java/lang/StringUTF16", "checkIndex", "(I[B)V"⟩ prog_11_method_91_code 2 none ∈ lw_tbl := xm_1 (List.mem_of_getElem? (i := 123) rfl)
theorem kw_124 : Cond.methodLink "java/lang/StringUTF16" 48 ⟨"java/lang/StringUTF16", "length", "([B)I"⟩ ∈ lw_tbl := xm_1 (List.mem_of_getElem? (i := 124) rfl)
theorem kw_125 : Cond.static ⟨"java/lang/StringUTF16", "length", "([B)I"⟩ ∈ lw_tbl := xm_1 (List.mem_of_getElem? (i := 125) rfl)
theorem kw_126 : Cond.code ⟨"java/lang/StringUTF16", "length", "([B)I"⟩ prog_11_method_6_code 1 (some FieldType.int) ∈ lw_tbl := xm_1 (List.mem_of_getElem? (i := 126) rfl)
theorem kw_127 : Cond.methodLink "java/lang/StringUTF16" 414 ⟨"java/lang/String", "checkIndex", "(II)V"⟩ ∈ lw_tbl := xm_1 (List.mem_of_getElem? (i := 127) rfl)
theorem kw_128 : Cond.methodLink "java/lang/StringUTF16" 71 ⟨"java/lang/StringUTF16", "getChar", "([BI)C"⟩ ∈ lw_tbl := xm_1 (List.mem_of_getElem? (i := 128) rfl)
theorem kw_129 : Cond.static ⟨"java/lang/StringUTF16", "getChar", "([BI)C"⟩ ∈ lw_tbl := xm_1 (List.mem_of_getElem? (i := 129) rfl)
theorem kw_130 : Cond.code ⟨"java/lang/StringUTF16", "getChar", "([BI)C"⟩ prog_11_method_5_code 2 (some FieldType.char) ∈ lw_tbl := xm_1 (List.mem_of_getElem? (i := 130) rfl)
theorem kw_131 : Cond.fieldLink "java/lang/StringUTF16" 44 "java/lang/StringUTF16" "$assertionsDisabled" "Z" ∈ lw_tbl := xm_1 (List.mem_of_getElem? (i := 131) rfl)
theorem kw_132 : Cond.laysStatic "java/lang/StringUTF16" "$assertionsDisabled" "Z" ∈ lw_tbl := xm_1 (List.mem_of_getElem? (i := 132) rfl)
theorem kw_133 : Cond.fieldLink "java/lang/StringUTF16" 59 "java/lang/StringUTF16" "HI_BYTE_SHIFT" "I" ∈ lw_tbl := xm_1 (List.mem_of_getElem? (i := 133) rfl)
theorem kw_134 : Cond.laysStatic "java/lang/StringUTF16" "HI_BYTE_SHIFT" "I" ∈ lw_tbl := xm_1 (List.mem_of_getElem? (i := 134) rfl)
theorem kw_135 : Cond.fieldLink "java/lang/StringUTF16" 63 "java/lang/StringUTF16" "LO_BYTE_SHIFT" "I" ∈ lw_tbl := xm_1 (List.mem_of_getElem? (i := 135) rfl)
theorem kw_136 : Cond.laysStatic "java/lang/StringUTF16" "LO_BYTE_SHIFT" "I" ∈ lw_tbl := xm_1 (List.mem_of_getElem? (i := 136) rfl)
theorem kw_137 : Cond.methodLink "MailParts$Row" 32 y_Ro_add ∈ lw_tbl := xm_1 (List.mem_of_getElem? (i := 137) rfl)
theorem kw_138 : Cond.instanceMethod y_Ro_add ∈ lw_tbl := xm_1 (List.mem_of_getElem? (i := 138) rfl)
theorem kw_139 : Cond.selects "MailParts$Row" y_Ro_add y_Ro_add ∈ lw_tbl := xm_1 (List.mem_of_getElem? (i := 139) rfl)
theorem kw_140 : Cond.code y_Ro_add prog_4_method_4_code 2 none ∈ lw_tbl := xm_1 (List.mem_of_getElem? (i := 140) rfl)
theorem kw_141 : Cond.stringRef "MailParts" 44 "content-transfer-encoding" ∈ lw_tbl := xm_1 (List.mem_of_getElem? (i := 141) rfl)
theorem kw_142 : Cond.stringRef "MailParts" 49 "content-disposition" ∈ lw_tbl := xm_1 (List.mem_of_getElem? (i := 142) rfl)
theorem kw_143 : Cond.stringRef "MailParts" 54 "boundary" ∈ lw_tbl := xm_1 (List.mem_of_getElem? (i := 143) rfl)
theorem kw_144 : Cond.stringRef "MailParts" 59 "filename" ∈ lw_tbl := xm_1 (List.mem_of_getElem? (i := 144) rfl)
theorem kw_145 : Cond.stringRef "MailParts" 64 "name" ∈ lw_tbl := xm_1 (List.mem_of_getElem? (i := 145) rfl)
theorem kw_146 : Cond.classLink "MailParts" 69 "MailParts$Entity" ∈ lw_tbl := xm_1 (List.mem_of_getElem? (i := 146) rfl)
theorem kw_147 : Cond.arrayOver (FieldType.object "MailParts$Entity") ∈ lw_tbl := xm_1 (List.mem_of_getElem? (i := 147) rfl)
theorem kw_148 : Cond.instantiable "MailParts$Entity" 17 ∈ lw_tbl := xm_1 (List.mem_of_getElem? (i := 148) rfl)
theorem kw_149 : Cond.methodLinkNest "MailParts" 75 y_En_init "MailParts" ∈ lw_tbl := xm_1 (List.mem_of_getElem? (i := 149) rfl)
theorem kw_150 : Cond.instanceMethod y_En_init ∈ lw_tbl := xm_1 (List.mem_of_getElem? (i := 150) rfl)
theorem kw_151 : Cond.code y_En_init prog_2_method_1_code 1 none ∈ lw_tbl := xm_1 (List.mem_of_getElem? (i := 151) rfl)
theorem kw_152 : Cond.methodLink "MailParts$Entity" 1 ⟨"java/lang/Object", "<init>", "()V"⟩ ∈ lw_tbl := xm_1 (List.mem_of_getElem? (i := 152) rfl)
theorem kw_153 : Cond.fieldLinkNest "MailParts" 136 "MailParts$Entity" "kind" "I" "MailParts" ∈ lw_tbl := xm_1 (List.mem_of_getElem? (i := 153) rfl)
theorem kw_154 : Cond.fieldLinkNest "MailParts" 139 "MailParts$Entity" "in" "I" "MailParts" ∈ lw_tbl := xm_1 (List.mem_of_getElem? (i := 154) rfl)
theorem kw_155 : Cond.fieldLinkNest "MailParts" 142 "MailParts$Entity" "deep" "I" "MailParts" ∈ lw_tbl := xm_1 (List.mem_of_getElem? (i := 155) rfl)
theorem kw_156 : Cond.fieldLinkNest "MailParts" 145 "MailParts$Entity" "hung" "Z" "MailParts" ∈ lw_tbl := xm_1 (List.mem_of_getElem? (i := 156) rfl)
theorem kw_157 : Cond.fieldLinkNest "MailParts" 149 "MailParts$Entity" "from" "I" "MailParts" ∈ lw_tbl := xm_1 (List.mem_of_getElem? (i := 157) rfl)
theorem kw_158 : Cond.fieldLinkNest "MailParts" 164 "MailParts$Entity" "headTo" "I" "MailParts" ∈ lw_tbl := xm_1 (List.mem_of_getElem? (i := 158) rfl)
theorem kw_159 : Cond.fieldLinkNest "MailParts" 155 "MailParts$Entity" "bodyFrom" "I" "MailParts" ∈ lw_tbl := xm_1 (List.mem_of_getElem? (i := 159) rfl)
theorem kw_160 : Cond.fieldLinkNest "MailParts" 158 "MailParts$Entity" "to" "I" "MailParts" ∈ lw_tbl := xm_1 (List.mem_of_getElem? (i := 160) rfl)
theorem kw_161 : Cond.fieldLinkNest "MailParts" 167 "MailParts$Entity" "parts" "I" "MailParts" ∈ lw_tbl := xm_1 (List.mem_of_getElem? (i := 161) rfl)
theorem kw_162 : Cond.fieldLinkNest "MailParts" 199 "MailParts$Entity" "fields" "I" "MailParts" ∈ lw_tbl := xm_1 (List.mem_of_getElem? (i := 162) rfl)
theorem kw_163 : Cond.fieldLinkNest "MailParts" 248 "MailParts$Entity" "alternative" "Z" "MailParts" ∈ lw_tbl := xm_1 (List.mem_of_getElem? (i := 163) rfl)
theorem kw_164 : Cond.fieldLinkNest "MailParts" 253 "MailParts$Entity" "digest" "Z" "MailParts" ∈ lw_tbl := xm_1 (List.mem_of_getElem? (i := 164) rfl)
theorem kw_165 : Cond.fieldLinkNest "MailParts" 274 "MailParts$Entity" "hangs" "Z" "MailParts" ∈ lw_tbl := xm_1 (List.mem_of_getElem? (i := 165) rfl)
theorem kw_166 : Cond.fieldLinkNest "MailParts" 268 "MailParts$Entity" "hasTexts" "Z" "MailParts" ∈ lw_tbl := xm_1 (List.mem_of_getElem? (i := 166) rfl)
theorem kw_167 : Cond.fieldLinkNest "MailParts" 271 "MailParts$Entity" "hasHtml" "Z" "MailParts" ∈ lw_tbl := xm_1 (List.mem_of_getElem? (i := 167) rfl)
theorem kw_168 : Cond.fieldLinkNest "MailParts" 277 "MailParts$Entity" "chosen" "I" "MailParts" ∈ lw_tbl := xm_1 (List.mem_of_getElem? (i := 168) rfl)
theorem kw_169 : Cond.fieldLinkNest "MailParts" 286 "MailParts$Entity" "taken" "Z" "MailParts" ∈ lw_tbl := xm_1 (List.mem_of_getElem? (i := 169) rfl)
theorem kw_170 : Cond.lays "MailParts$Entity" "MailParts$Entity" "kind" "I" ∈ lw_tbl := xm_1 (List.mem_of_getElem? (i := 170) rfl)
theorem kw_172 : Cond.lays "MailParts$Entity" "MailParts$Entity" "in" "I" ∈ lw_tbl := xm_1 (List.mem_of_getElem? (i := 172) rfl)
theorem kw_174 : Cond.lays "MailParts$Entity" "MailParts$Entity" "deep" "I" ∈ lw_tbl := xm_1 (List.mem_of_getElem? (i := 174) rfl)
theorem kw_176 : Cond.lays "MailParts$Entity" "MailParts$Entity" "hung" "Z" ∈ lw_tbl := xm_1 (List.mem_of_getElem? (i := 176) rfl)
theorem kw_178 : Cond.lays "MailParts$Entity" "MailParts$Entity" "from" "I" ∈ lw_tbl := xm_1 (List.mem_of_getElem? (i := 178) rfl)
theorem kw_180 : Cond.lays "MailParts$Entity" "MailParts$Entity" "headTo" "I" ∈ lw_tbl := xm_1 (List.mem_of_getElem? (i := 180) rfl)
theorem kw_182 : Cond.lays "MailParts$Entity" "MailParts$Entity" "bodyFrom" "I" ∈ lw_tbl := xm_1 (List.mem_of_getElem? (i := 182) rfl)
theorem kw_184 : Cond.lays "MailParts$Entity" "MailParts$Entity" "to" "I" ∈ lw_tbl := xm_1 (List.mem_of_getElem? (i := 184) rfl)
theorem kw_186 : Cond.lays "MailParts$Entity" "MailParts$Entity" "parts" "I" ∈ lw_tbl := xm_1 (List.mem_of_getElem? (i := 186) rfl)
theorem kw_188 : Cond.lays "MailParts$Entity" "MailParts$Entity" "fields" "I" ∈ lw_tbl := xm_1 (List.mem_of_getElem? (i := 188) rfl)
theorem kw_190 : Cond.lays "MailParts$Entity" "MailParts$Entity" "alternative" "Z" ∈ lw_tbl := xm_1 (List.mem_of_getElem? (i := 190) rfl)
theorem kw_192 : Cond.lays "MailParts$Entity" "MailParts$Entity" "digest" "Z" ∈ lw_tbl := xm_1 (List.mem_of_getElem? (i := 192) rfl)
theorem kw_194 : Cond.lays "MailParts$Entity" "MailParts$Entity" "hangs" "Z" ∈ lw_tbl := xm_1 (List.mem_of_getElem? (i := 194) rfl)
theorem kw_196 : Cond.lays "MailParts$Entity" "MailParts$Entity" "hasTexts" "Z" ∈ lw_tbl := xm_1 (List.mem_of_getElem? (i := 196) rfl)
theorem kw_198 : Cond.lays "MailParts$Entity" "MailParts$Entity" "hasHtml" "Z" ∈ lw_tbl := xm_1 (List.mem_of_getElem? (i := 198) rfl)
theorem kw_200 : Cond.lays "MailParts$Entity" "MailParts$Entity" "chosen" "I" ∈ lw_tbl := xm_1 (List.mem_of_getElem? (i := 200) rfl)
theorem kw_202 : Cond.lays "MailParts$Entity" "MailParts$Entity" "taken" "Z" ∈ lw_tbl := xm_1 (List.mem_of_getElem? (i := 202) rfl)
theorem kw_205 : Cond.arrayClass FieldType.byte ∈ lw_tbl := xm_1 (List.mem_of_getElem? (i := 205) rfl)
theorem kw_206 : Cond.arrayOver (FieldType.object "MailParts$Row") ∈ lw_tbl := xm_1 (List.mem_of_getElem? (i := 206) rfl)
theorem kw_207 : Cond.fieldLink "MailParts" 14 "MailParts" "ready" "LMailParts$Row;" ∈ lw_tbl := xm_1 (List.mem_of_getElem? (i := 207) rfl)
theorem kw_208 : Cond.fieldLink "MailParts" 18 "MailParts" "tape" "LMailParts$Row;" ∈ lw_tbl := xm_1 (List.mem_of_getElem? (i := 208) rfl)
theorem kw_209 : Cond.fieldLink "MailParts" 24 "MailParts" "mail" "LMailParts$Mail;" ∈ lw_tbl := xm_1 (List.mem_of_getElem? (i := 209) rfl)
theorem kw_210 : Cond.fieldLink "MailParts" 31 "MailParts" "value" "LMailParts$Value;" ∈ lw_tbl := xm_1 (List.mem_of_getElem? (i := 210) rfl)
theorem kw_211 : Cond.fieldLink "MailParts" 41 "MailParts" "typeField" "LMailParts$Row;" ∈ lw_tbl := xm_1 (List.mem_of_getElem? (i := 211) rfl)
theorem kw_212 : Cond.fieldLink "MailParts" 46 "MailParts" "codingField" "LMailParts$Row;" ∈ lw_tbl := xm_1 (List.mem_of_getElem? (i := 212) rfl)
theorem kw_213 : Cond.fieldLink "MailParts" 51 "MailParts" "dispositionField" "LMailParts$Row;" ∈ lw_tbl := xm_1 (List.mem_of_getElem? (i := 213) rfl)
theorem kw_214 : Cond.fieldLink "MailParts" 56 "MailParts" "boundaryName" "LMailParts$Row;" ∈ lw_tbl := xm_1 (List.mem_of_getElem? (i := 214) rfl)
theorem kw_215 : Cond.fieldLink "MailParts" 61 "MailParts" "filenameName" "LMailParts$Row;" ∈ lw_tbl := xm_1 (List.mem_of_getElem? (i := 215) rfl)
theorem kw_216 : Cond.fieldLink "MailParts" 66 "MailParts" "nameName" "LMailParts$Row;" ∈ lw_tbl := xm_1 (List.mem_of_getElem? (i := 216) rfl)
theorem kw_217 : Cond.fieldLink "MailParts" 71 "MailParts" "entities" "[LMailParts$Entity;" ∈ lw_tbl := xm_1 (List.mem_of_getElem? (i := 217) rfl)
theorem kw_218 : Cond.fieldLink "MailParts" 76 "MailParts" "boundaries" "[LMailParts$Row;" ∈ lw_tbl := xm_1 (List.mem_of_getElem? (i := 218) rfl)
theorem kw_219 : Cond.fieldLink "MailParts" 80 "MailParts" "textLeaves" "LMailParts$Row;" ∈ lw_tbl := xm_1 (List.mem_of_getElem? (i := 219) rfl)
theorem kw_220 : Cond.fieldLink "MailParts" 83 "MailParts" "hangingLeaves" "LMailParts$Row;" ∈ lw_tbl := xm_1 (List.mem_of_getElem? (i := 220) rfl)
theorem kw_221 : Cond.fieldLink "MailParts" 86 "MailParts" "made" "I" ∈ lw_tbl := xm_1 (List.mem_of_getElem? (i := 221) rfl)
theorem kw_222 : Cond.fieldLink "MailParts" 90 "MailParts" "lost" "I" ∈ lw_tbl := xm_1 (List.mem_of_getElem? (i := 222) rfl)
theorem kw_223 : Cond.laysFinal "MailParts" "MailParts" "ready" "LMailParts$Row;" ∈ lw_tbl := xm_1 (List.mem_of_getElem? (i := 223) rfl)
theorem kw_225 : Cond.laysFinal "MailParts" "MailParts" "tape" "LMailParts$Row;" ∈ lw_tbl := xm_1 (List.mem_of_getElem? (i := 225) rfl)
theorem kw_227 : Cond.laysFinal "MailParts" "MailParts" "mail" "LMailParts$Mail;" ∈ lw_tbl := xm_1 (List.mem_of_getElem? (i := 227) rfl)
theorem kw_229 : Cond.laysFinal "MailParts" "MailParts" "value" "LMailParts$Value;" ∈ lw_tbl := xm_1 (List.mem_of_getElem? (i := 229) rfl)
theorem kw_231 : Cond.laysFinal "MailParts" "MailParts" "typeField" "LMailParts$Row;" ∈ lw_tbl := xm_1 (List.mem_of_getElem? (i := 231) rfl)
theorem kw_233 : Cond.laysFinal "MailParts" "MailParts" "codingField" "LMailParts$Row;" ∈ lw_tbl := xm_1 (List.mem_of_getElem? (i := 233) rfl)
theorem kw_235 : Cond.laysFinal "MailParts" "MailParts" "dispositionField" "LMailParts$Row;" ∈ lw_tbl := xm_1 (List.mem_of_getElem? (i := 235) rfl)
theorem kw_237 : Cond.laysFinal "MailParts" "MailParts" "boundaryName" "LMailParts$Row;" ∈ lw_tbl := xm_1 (List.mem_of_getElem? (i := 237) rfl)
theorem kw_239 : Cond.laysFinal "MailParts" "MailParts" "filenameName" "LMailParts$Row;" ∈ lw_tbl := xm_1 (List.mem_of_getElem? (i := 239) rfl)
theorem kw_241 : Cond.laysFinal "MailParts" "MailParts" "nameName" "LMailParts$Row;" ∈ lw_tbl := xm_2 (List.mem_of_getElem? (i := 1) rfl)
theorem kw_243 : Cond.laysFinal "MailParts" "MailParts" "entities" "[LMailParts$Entity;" ∈ lw_tbl := xm_2 (List.mem_of_getElem? (i := 3) rfl)
theorem kw_245 : Cond.laysFinal "MailParts" "MailParts" "boundaries" "[LMailParts$Row;" ∈ lw_tbl := xm_2 (List.mem_of_getElem? (i := 5) rfl)
theorem kw_247 : Cond.laysFinal "MailParts" "MailParts" "textLeaves" "LMailParts$Row;" ∈ lw_tbl := xm_2 (List.mem_of_getElem? (i := 7) rfl)
theorem kw_249 : Cond.laysFinal "MailParts" "MailParts" "hangingLeaves" "LMailParts$Row;" ∈ lw_tbl := xm_2 (List.mem_of_getElem? (i := 9) rfl)
theorem kw_251 : Cond.lays "MailParts" "MailParts" "made" "I" ∈ lw_tbl := xm_2 (List.mem_of_getElem? (i := 11) rfl)
theorem kw_253 : Cond.lays "MailParts" "MailParts" "lost" "I" ∈ lw_tbl := xm_2 (List.mem_of_getElem? (i := 13) rfl)
theorem kw_256 : Cond.methodLink "MailPartsLaw" 13 y_Mp_feed ∈ lw_tbl := xm_2 (List.mem_of_getElem? (i := 16) rfl)
theorem kw_257 : Cond.instanceMethod y_Mp_feed ∈ lw_tbl := xm_2 (List.mem_of_getElem? (i := 17) rfl)
theorem kw_258 : Cond.selects "MailParts" y_Mp_feed y_Mp_feed ∈ lw_tbl := xm_2 (List.mem_of_getElem? (i := 18) rfl)
theorem kw_259 : Cond.code y_Mp_feed prog_1_method_2_code 6 none ∈ lw_tbl := xm_2 (List.mem_of_getElem? (i := 19) rfl)
theorem kw_260 : Cond.methodLink "MailParts" 93 y_Ro_clear ∈ lw_tbl := xm_2 (List.mem_of_getElem? (i := 20) rfl)
theorem kw_261 : Cond.methodLink "MailParts" 96 y_Mp_addWord ∈ lw_tbl := xm_2 (List.mem_of_getElem? (i := 21) rfl)
theorem kw_262 : Cond.privateMethod y_Mp_addWord ∈ lw_tbl := xm_2 (List.mem_of_getElem? (i := 22) rfl)
theorem kw_263 : Cond.instanceMethod y_Mp_addWord ∈ lw_tbl := xm_2 (List.mem_of_getElem? (i := 23) rfl)
theorem kw_264 : Cond.code y_Mp_addWord prog_1_method_14_code 2 none ∈ lw_tbl := xm_2 (List.mem_of_getElem? (i := 24) rfl)
theorem kw_265 : Cond.methodLink "MailParts" 112 y_Ro_add ∈ lw_tbl := xm_2 (List.mem_of_getElem? (i := 25) rfl)
theorem kw_266 : Cond.methodLink "MailPartsLaw" 18 y_Mp_end ∈ lw_tbl := xm_2 (List.mem_of_getElem? (i := 26) rfl)
theorem kw_267 : Cond.instanceMethod y_Mp_end ∈ lw_tbl := xm_2 (List.mem_of_getElem? (i := 27) rfl)
theorem kw_268 : Cond.selects "MailParts" y_Mp_end y_Mp_end ∈ lw_tbl := xm_2 (List.mem_of_getElem? (i := 28) rfl)
theorem kw_269 : Cond.code y_Mp_end prog_1_method_3_code 3 (some FieldType.int) ∈ lw_tbl := xm_2 (List.mem_of_getElem? (i := 29) rfl)
theorem kw_270 : Cond.methodLink "MailParts" 102 y_Ro_get ∈ lw_tbl := xm_2 (List.mem_of_getElem? (i := 30) rfl)
theorem kw_271 : Cond.instanceMethod y_Ro_get ∈ lw_tbl := xm_2 (List.mem_of_getElem? (i := 31) rfl)
theorem kw_272 : Cond.selects "MailParts$Row" y_Ro_get y_Ro_get ∈ lw_tbl := xm_2 (List.mem_of_getElem? (i := 32) rfl)
theorem kw_273 : Cond.code y_Ro_get prog_4_method_2_code 2 (some FieldType.int) ∈ lw_tbl := xm_2 (List.mem_of_getElem? (i := 33) rfl)
theorem kw_274 : Cond.methodLink "MailParts" 106 ⟨"java/lang/Math", "max", "(II)I"⟩ ∈ lw_tbl := xm_2 (List.mem_of_getElem? (i := 34) rfl)
theorem kw_275 : Cond.methodLink "MailPartsLaw" 23 y_Mp_read ∈ lw_tbl := xm_2 (List.mem_of_getElem? (i := 35) rfl)
theorem kw_276 : Cond.instanceMethod y_Mp_read ∈ lw_tbl := xm_2 (List.mem_of_getElem? (i := 36) rfl)
theorem kw_277 : Cond.selects "MailParts" y_Mp_read y_Mp_read ∈ lw_tbl := xm_2 (List.mem_of_getElem? (i := 37) rfl)
theorem kw_278 : Cond.code y_Mp_read prog_1_method_4_code 1 (some FieldType.int) ∈ lw_tbl := xm_2 (List.mem_of_getElem? (i := 38) rfl)
theorem kw_279 : Cond.methodLink "MailParts" 115 y_Ma_take ∈ lw_tbl := xm_2 (List.mem_of_getElem? (i := 39) rfl)
theorem kw_280 : Cond.instanceMethod y_Ma_take ∈ lw_tbl := xm_2 (List.mem_of_getElem? (i := 40) rfl)
theorem kw_281 : Cond.selects "MailParts$Mail" y_Ma_take y_Ma_take ∈ lw_tbl := xm_2 (List.mem_of_getElem? (i := 41) rfl)
theorem kw_282 : Cond.code y_Ma_take prog_3_method_2_code 4 none ∈ lw_tbl := xm_2 (List.mem_of_getElem? (i := 42) rfl)
theorem kw_283 : Cond.methodLink "MailParts$Mail" 31 y_Ro_clear ∈ lw_tbl := xm_2 (List.mem_of_getElem? (i := 43) rfl)
theorem kw_284 : Cond.methodLink "MailParts$Mail" 37 y_Ro_addRange ∈ lw_tbl := xm_2 (List.mem_of_getElem? (i := 44) rfl)
theorem kw_285 : Cond.instanceMethod y_Ro_addRange ∈ lw_tbl := xm_2 (List.mem_of_getElem? (i := 45) rfl)
theorem kw_286 : Cond.selects "MailParts$Row" y_Ro_addRange y_Ro_addRange ∈ lw_tbl := xm_2 (List.mem_of_getElem? (i := 46) rfl)
theorem kw_287 : Cond.code y_Ro_addRange prog_4_method_7_code 5 none ∈ lw_tbl := xm_2 (List.mem_of_getElem? (i := 47) rfl)
theorem kw_288 : Cond.methodLink "MailParts$Row" 28 y_Ro_get ∈ lw_tbl := xm_2 (List.mem_of_getElem? (i := 48) rfl)
theorem kw_289 : Cond.methodLink "MailParts$Mail" 41 y_Ro_get ∈ lw_tbl := xm_2 (List.mem_of_getElem? (i := 49) rfl)
theorem kw_290 : Cond.methodLink "MailParts$Mail" 45 y_Ma_addLine ∈ lw_tbl := xm_2 (List.mem_of_getElem? (i := 50) rfl)
theorem kw_291 : Cond.privateMethod y_Ma_addLine ∈ lw_tbl := xm_2 (List.mem_of_getElem? (i := 51) rfl)
theorem kw_292 : Cond.instanceMethod y_Ma_addLine ∈ lw_tbl := xm_2 (List.mem_of_getElem? (i := 52) rfl)
theorem kw_293 : Cond.code y_Ma_addLine prog_3_method_3_code 3 none ∈ lw_tbl := xm_2 (List.mem_of_getElem? (i := 53) rfl)
theorem kw_294 : Cond.methodLink "MailParts" 122 y_Mp_openEntity ∈ lw_tbl := xm_2 (List.mem_of_getElem? (i := 54) rfl)
theorem kw_295 : Cond.privateMethod y_Mp_openEntity ∈ lw_tbl := xm_2 (List.mem_of_getElem? (i := 55) rfl)
theorem kw_296 : Cond.instanceMethod y_Mp_openEntity ∈ lw_tbl := xm_2 (List.mem_of_getElem? (i := 56) rfl)
theorem kw_297 : Cond.code y_Mp_openEntity prog_1_method_18_code 8 none ∈ lw_tbl := xm_2 (List.mem_of_getElem? (i := 57) rfl)
theorem kw_298 : Cond.methodLink "MailParts" 209 y_Ma_headStop ∈ lw_tbl := xm_2 (List.mem_of_getElem? (i := 58) rfl)
theorem kw_299 : Cond.instanceMethod y_Ma_headStop ∈ lw_tbl := xm_2 (List.mem_of_getElem? (i := 59) rfl)
theorem kw_300 : Cond.selects "MailParts$Mail" y_Ma_headStop y_Ma_headStop ∈ lw_tbl := xm_2 (List.mem_of_getElem? (i := 60) rfl)
theorem kw_301 : Cond.code y_Ma_headStop prog_3_method_9_code 5 (some FieldType.int) ∈ lw_tbl := xm_2 (List.mem_of_getElem? (i := 61) rfl)
theorem kw_302 : Cond.methodLink "MailParts$Mail" 62 y_Ma_beginsBlank ∈ lw_tbl := xm_2 (List.mem_of_getElem? (i := 62) rfl)
theorem kw_303 : Cond.instanceMethod y_Ma_beginsBlank ∈ lw_tbl := xm_2 (List.mem_of_getElem? (i := 63) rfl)
theorem kw_304 : Cond.selects "MailParts$Mail" y_Ma_beginsBlank y_Ma_beginsBlank ∈ lw_tbl := xm_2 (List.mem_of_getElem? (i := 64) rfl)
theorem kw_305 : Cond.code y_Ma_beginsBlank prog_3_method_7_code 2 (some FieldType.boolean) ∈ lw_tbl := xm_2 (List.mem_of_getElem? (i := 65) rfl)
theorem kw_306 : Cond.methodLink "MailParts$Mail" 49 y_Ma_startOf ∈ lw_tbl := xm_2 (List.mem_of_getElem? (i := 66) rfl)
theorem kw_307 : Cond.instanceMethod y_Ma_startOf ∈ lw_tbl := xm_2 (List.mem_of_getElem? (i := 67) rfl)
theorem kw_308 : Cond.selects "MailParts$Mail" y_Ma_startOf y_Ma_startOf ∈ lw_tbl := xm_2 (List.mem_of_getElem? (i := 68) rfl)
theorem kw_309 : Cond.code y_Ma_startOf prog_3_method_4_code 2 (some FieldType.int) ∈ lw_tbl := xm_2 (List.mem_of_getElem? (i := 69) rfl)
theorem kw_310 : Cond.methodLinkNest "MailParts$Mail" 55 y_Mp_isBlank "MailParts" ∈ lw_tbl := xm_2 (List.mem_of_getElem? (i := 70) rfl)
theorem kw_311 : Cond.static y_Mp_isBlank ∈ lw_tbl := xm_2 (List.mem_of_getElem? (i := 71) rfl)
theorem kw_312 : Cond.code y_Mp_isBlank prog_1_method_30_code 1 (some FieldType.boolean) ∈ lw_tbl := xm_2 (List.mem_of_getElem? (i := 72) rfl)
theorem kw_313 : Cond.methodLink "MailParts$Mail" 65 y_Ma_colonOf ∈ lw_tbl := xm_2 (List.mem_of_getElem? (i := 73) rfl)
theorem kw_314 : Cond.instanceMethod y_Ma_colonOf ∈ lw_tbl := xm_2 (List.mem_of_getElem? (i := 74) rfl)
theorem kw_315 : Cond.selects "MailParts$Mail" y_Ma_colonOf y_Ma_colonOf ∈ lw_tbl := xm_2 (List.mem_of_getElem? (i := 75) rfl)
theorem kw_316 : Cond.code y_Ma_colonOf prog_3_method_8_code 6 (some FieldType.int) ∈ lw_tbl := xm_2 (List.mem_of_getElem? (i := 76) rfl)
theorem kw_317 : Cond.methodLink "MailParts$Mail" 52 y_Ma_stopOf ∈ lw_tbl := xm_2 (List.mem_of_getElem? (i := 77) rfl)
theorem kw_318 : Cond.instanceMethod y_Ma_stopOf ∈ lw_tbl := xm_2 (List.mem_of_getElem? (i := 78) rfl)
theorem kw_319 : Cond.selects "MailParts$Mail" y_Ma_stopOf y_Ma_stopOf ∈ lw_tbl := xm_2 (List.mem_of_getElem? (i := 79) rfl)
theorem kw_320 : Cond.code y_Ma_stopOf prog_3_method_5_code 2 (some FieldType.int) ∈ lw_tbl := xm_2 (List.mem_of_getElem? (i := 80) rfl)
theorem kw_321 : Cond.methodLinkNest "MailParts$Mail" 59 y_Mp_isNameByte "MailParts" ∈ lw_tbl := xm_2 (List.mem_of_getElem? (i := 81) rfl)
theorem kw_322 : Cond.static y_Mp_isNameByte ∈ lw_tbl := xm_2 (List.mem_of_getElem? (i := 82) rfl)
theorem kw_323 : Cond.code y_Mp_isNameByte prog_1_method_31_code 1 (some FieldType.boolean) ∈ lw_tbl := xm_2 (List.mem_of_getElem? (i := 83) rfl)
theorem kw_324 : Cond.methodLink "MailParts" 212 y_Ma_isEmptyLine ∈ lw_tbl := xm_2 (List.mem_of_getElem? (i := 84) rfl)
theorem kw_325 : Cond.instanceMethod y_Ma_isEmptyLine ∈ lw_tbl := xm_2 (List.mem_of_getElem? (i := 85) rfl)
theorem kw_326 : Cond.selects "MailParts$Mail" y_Ma_isEmptyLine y_Ma_isEmptyLine ∈ lw_tbl := xm_2 (List.mem_of_getElem? (i := 86) rfl)
theorem kw_327 : Cond.code y_Ma_isEmptyLine prog_3_method_6_code 2 (some FieldType.boolean) ∈ lw_tbl := xm_2 (List.mem_of_getElem? (i := 87) rfl)
theorem kw_328 : Cond.methodLink "MailParts" 132 y_Mp_find ∈ lw_tbl := xm_2 (List.mem_of_getElem? (i := 88) rfl)
theorem kw_329 : Cond.privateMethod y_Mp_find ∈ lw_tbl := xm_2 (List.mem_of_getElem? (i := 89) rfl)
theorem kw_330 : Cond.instanceMethod y_Mp_find ∈ lw_tbl := xm_2 (List.mem_of_getElem? (i := 90) rfl)
theorem kw_331 : Cond.code y_Mp_find prog_1_method_15_code 2 (some (FieldType.object "MailParts$Entity")) ∈ lw_tbl := xm_2 (List.mem_of_getElem? (i := 91) rfl)
theorem kw_332 : Cond.methodLink "MailParts" 216 y_Mp_describe ∈ lw_tbl := xm_2 (List.mem_of_getElem? (i := 92) rfl)
theorem kw_333 : Cond.privateMethod y_Mp_describe ∈ lw_tbl := xm_2 (List.mem_of_getElem? (i := 93) rfl)
theorem kw_334 : Cond.instanceMethod y_Mp_describe ∈ lw_tbl := xm_2 (List.mem_of_getElem? (i := 94) rfl)
theorem kw_335 : Cond.code y_Mp_describe prog_1_method_20_code 6 none ∈ lw_tbl := xm_2 (List.mem_of_getElem? (i := 95) rfl)
theorem kw_336 : Cond.methodLink "MailParts" 228 y_Mp_loadType ∈ lw_tbl := xm_2 (List.mem_of_getElem? (i := 96) rfl)
theorem kw_337 : Cond.privateMethod y_Mp_loadType ∈ lw_tbl := xm_2 (List.mem_of_getElem? (i := 97) rfl)
theorem kw_338 : Cond.instanceMethod y_Mp_loadType ∈ lw_tbl := xm_2 (List.mem_of_getElem? (i := 98) rfl)
theorem kw_339 : Cond.code y_Mp_loadType prog_1_method_26_code 3 none ∈ lw_tbl := xm_2 (List.mem_of_getElem? (i := 99) rfl)
theorem kw_340 : Cond.methodLink "MailParts" 179 y_Mp_loadField ∈ lw_tbl := xm_2 (List.mem_of_getElem? (i := 100) rfl)
theorem kw_341 : Cond.privateMethod y_Mp_loadField ∈ lw_tbl := xm_2 (List.mem_of_getElem? (i := 101) rfl)
theorem kw_342 : Cond.instanceMethod y_Mp_loadField ∈ lw_tbl := xm_2 (List.mem_of_getElem? (i := 102) rfl)
theorem kw_343 : Cond.code y_Mp_loadField prog_1_method_28_code 4 (some FieldType.boolean) ∈ lw_tbl := xm_2 (List.mem_of_getElem? (i := 103) rfl)
theorem kw_344 : Cond.methodLink "MailParts" 205 y_Ma_fieldLine ∈ lw_tbl := xm_2 (List.mem_of_getElem? (i := 104) rfl)
theorem kw_345 : Cond.instanceMethod y_Ma_fieldLine ∈ lw_tbl := xm_2 (List.mem_of_getElem? (i := 105) rfl)
theorem kw_346 : Cond.selects "MailParts$Mail" y_Ma_fieldLine y_Ma_fieldLine ∈ lw_tbl := xm_2 (List.mem_of_getElem? (i := 106) rfl)
theorem kw_347 : Cond.code y_Ma_fieldLine prog_3_method_10_code 7 (some FieldType.int) ∈ lw_tbl := xm_2 (List.mem_of_getElem? (i := 107) rfl)
theorem kw_348 : Cond.methodLink "MailParts$Mail" 68 y_Ro_hasName ∈ lw_tbl := xm_2 (List.mem_of_getElem? (i := 108) rfl)
theorem kw_349 : Cond.instanceMethod y_Ro_hasName ∈ lw_tbl := xm_2 (List.mem_of_getElem? (i := 109) rfl)
theorem kw_350 : Cond.selects "MailParts$Row" y_Ro_hasName y_Ro_hasName ∈ lw_tbl := xm_2 (List.mem_of_getElem? (i := 110) rfl)
theorem kw_351 : Cond.code y_Ro_hasName prog_4_method_11_code 4 (some FieldType.boolean) ∈ lw_tbl := xm_2 (List.mem_of_getElem? (i := 111) rfl)
theorem kw_352 : Cond.methodLinkNest "MailParts$Row" 53 y_Mp_small "MailParts" ∈ lw_tbl := xm_2 (List.mem_of_getElem? (i := 112) rfl)
theorem kw_353 : Cond.static y_Mp_small ∈ lw_tbl := xm_2 (List.mem_of_getElem? (i := 113) rfl)
theorem kw_354 : Cond.code y_Mp_small prog_1_method_32_code 1 (some FieldType.int) ∈ lw_tbl := xm_2 (List.mem_of_getElem? (i := 114) rfl)
theorem kw_355 : Cond.methodLink "MailParts" 302 y_Ma_copyValue ∈ lw_tbl := xm_2 (List.mem_of_getElem? (i := 115) rfl)
theorem kw_356 : Cond.instanceMethod y_Ma_copyValue ∈ lw_tbl := xm_2 (List.mem_of_getElem? (i := 116) rfl)
theorem kw_357 : Cond.selects "MailParts$Mail" y_Ma_copyValue y_Ma_copyValue ∈ lw_tbl := xm_2 (List.mem_of_getElem? (i := 117) rfl)
theorem kw_358 : Cond.code y_Ma_copyValue prog_3_method_11_code 5 none ∈ lw_tbl := xm_2 (List.mem_of_getElem? (i := 118) rfl)
theorem kw_359 : Cond.methodLink "MailParts" 256 y_Va_keepFirstItem ∈ lw_tbl := xm_2 (List.mem_of_getElem? (i := 119) rfl)
theorem kw_360 : Cond.instanceMethod y_Va_keepFirstItem ∈ lw_tbl := xm_2 (List.mem_of_getElem? (i := 120) rfl)
theorem kw_361 : Cond.selects "MailParts$Value" y_Va_keepFirstItem y_Va_keepFirstItem ∈ lw_tbl := xm_2 (List.mem_of_getElem? (i := 121) rfl)
theorem kw_362 : Cond.code y_Va_keepFirstItem prog_5_method_2_code 2 none ∈ lw_tbl := xm_2 (List.mem_of_getElem? (i := 122) rfl)
theorem kw_363 : Cond.methodLink "MailParts$Value" 24 y_Va_find ∈ lw_tbl := xm_2 (List.mem_of_getElem? (i := 123) rfl)
theorem kw_364 : Cond.privateMethod y_Va_find ∈ lw_tbl := xm_2 (List.mem_of_getElem? (i := 124) rfl)
theorem kw_365 : Cond.instanceMethod y_Va_find ∈ lw_tbl := xm_2 (List.mem_of_getElem? (i := 125) rfl)
theorem kw_366 : Cond.code y_Va_find prog_5_method_5_code 7 (some FieldType.int) ∈ lw_tbl := xm_2 (List.mem_of_getElem? (i := 126) rfl)
theorem kw_367 : Cond.methodLink "MailParts$Value" 32 y_Ro_get ∈ lw_tbl := xm_2 (List.mem_of_getElem? (i := 127) rfl)
theorem kw_368 : Cond.methodLink "MailParts$Value" 28 y_Va_keep ∈ lw_tbl := xm_2 (List.mem_of_getElem? (i := 128) rfl)
theorem kw_369 : Cond.privateMethod y_Va_keep ∈ lw_tbl := xm_2 (List.mem_of_getElem? (i := 129) rfl)
theorem kw_370 : Cond.instanceMethod y_Va_keep ∈ lw_tbl := xm_2 (List.mem_of_getElem? (i := 130) rfl)
theorem kw_371 : Cond.code y_Va_keep prog_5_method_9_code 6 none ∈ lw_tbl := xm_2 (List.mem_of_getElem? (i := 131) rfl)
theorem kw_372 : Cond.methodLink "MailParts$Value" 56 y_Va_behindBlanks ∈ lw_tbl := xm_2 (List.mem_of_getElem? (i := 132) rfl)
theorem kw_373 : Cond.privateMethod y_Va_behindBlanks ∈ lw_tbl := xm_2 (List.mem_of_getElem? (i := 133) rfl)
theorem kw_374 : Cond.instanceMethod y_Va_behindBlanks ∈ lw_tbl := xm_2 (List.mem_of_getElem? (i := 134) rfl)
theorem kw_375 : Cond.code y_Va_behindBlanks prog_5_method_7_code 4 (some FieldType.int) ∈ lw_tbl := xm_2 (List.mem_of_getElem? (i := 135) rfl)
theorem kw_376 : Cond.methodLinkNest "MailParts$Value" 52 y_Mp_isBlank "MailParts" ∈ lw_tbl := xm_2 (List.mem_of_getElem? (i := 136) rfl)
theorem kw_377 : Cond.methodLink "MailParts$Value" 60 y_Va_aheadOfBlanks ∈ lw_tbl := xm_2 (List.mem_of_getElem? (i := 137) rfl)
theorem kw_378 : Cond.privateMethod y_Va_aheadOfBlanks ∈ lw_tbl := xm_2 (List.mem_of_getElem? (i := 138) rfl)
theorem kw_379 : Cond.instanceMethod y_Va_aheadOfBlanks ∈ lw_tbl := xm_2 (List.mem_of_getElem? (i := 139) rfl)
theorem kw_380 : Cond.code y_Va_aheadOfBlanks prog_5_method_8_code 4 (some FieldType.int) ∈ lw_tbl := xm_2 (List.mem_of_getElem? (i := 140) rfl)
theorem kw_381 : Cond.methodLink "MailParts$Value" 39 y_Ro_set ∈ lw_tbl := xm_2 (List.mem_of_getElem? (i := 141) rfl)
theorem kw_382 : Cond.instanceMethod y_Ro_set ∈ lw_tbl := xm_2 (List.mem_of_getElem? (i := 142) rfl)
theorem kw_383 : Cond.selects "MailParts$Row" y_Ro_set y_Ro_set ∈ lw_tbl := xm_2 (List.mem_of_getElem? (i := 143) rfl)
theorem kw_384 : Cond.code y_Ro_set prog_4_method_5_code 3 none ∈ lw_tbl := xm_2 (List.mem_of_getElem? (i := 144) rfl)
theorem kw_385 : Cond.methodLink "MailParts$Value" 67 y_Ro_shorten ∈ lw_tbl := xm_2 (List.mem_of_getElem? (i := 145) rfl)
theorem kw_386 : Cond.instanceMethod y_Ro_shorten ∈ lw_tbl := xm_2 (List.mem_of_getElem? (i := 146) rfl)
theorem kw_387 : Cond.selects "MailParts$Row" y_Ro_shorten y_Ro_shorten ∈ lw_tbl := xm_2 (List.mem_of_getElem? (i := 147) rfl)
theorem kw_388 : Cond.code y_Ro_shorten prog_4_method_6_code 2 none ∈ lw_tbl := xm_2 (List.mem_of_getElem? (i := 148) rfl)
theorem kw_389 : Cond.methodLink "MailParts$Row" 25 ⟨"java/lang/Math", "min", "(II)I"⟩ ∈ lw_tbl := xm_2 (List.mem_of_getElem? (i := 149) rfl)
theorem kw_390 : Cond.static ⟨"java/lang/Math", "min", "(II)I"⟩ ∈ lw_tbl := xm_2 (List.mem_of_getElem? (i := 150) rfl)
theorem kw_391 : Cond.code ⟨"java/lang/Math", "min", "(II)I"⟩ prog_8_method_69_code 2 (some FieldType.int) ∈ lw_tbl := xm_2 (List.mem_of_getElem? (i := 151) rfl)
theorem kw_392 : Cond.methodLinkNest "MailParts$Value" 36 y_Mp_small "MailParts" ∈ lw_tbl := xm_2 (List.mem_of_getElem? (i := 152) rfl)
theorem kw_393 : Cond.methodLink "MailParts" 292 y_Va_isType ∈ lw_tbl := xm_2 (List.mem_of_getElem? (i := 153) rfl)
theorem kw_394 : Cond.instanceMethod y_Va_isType ∈ lw_tbl := xm_2 (List.mem_of_getElem? (i := 154) rfl)
theorem kw_395 : Cond.selects "MailParts$Value" y_Va_isType y_Va_isType ∈ lw_tbl := xm_2 (List.mem_of_getElem? (i := 155) rfl)
theorem kw_396 : Cond.code y_Va_isType prog_5_method_4_code 4 (some FieldType.boolean) ∈ lw_tbl := xm_2 (List.mem_of_getElem? (i := 156) rfl)
theorem kw_397 : Cond.stringRef "MailParts" 244 "message/rfc822" ∈ lw_tbl := xm_2 (List.mem_of_getElem? (i := 157) rfl)
theorem kw_398 : Cond.stringRef "MailParts" 296 "text/plain" ∈ lw_tbl := xm_2 (List.mem_of_getElem? (i := 158) rfl)
theorem kw_399 : Cond.stringRef "MailParts" 231 "text/" ∈ lw_tbl := xm_2 (List.mem_of_getElem? (i := 159) rfl)
theorem kw_400 : Cond.methodLink "MailParts" 233 y_Ro_begins ∈ lw_tbl := xm_2 (List.mem_of_getElem? (i := 160) rfl)
theorem kw_401 : Cond.instanceMethod y_Ro_begins ∈ lw_tbl := xm_2 (List.mem_of_getElem? (i := 161) rfl)
theorem kw_402 : Cond.selects "MailParts$Row" y_Ro_begins y_Ro_begins ∈ lw_tbl := xm_2 (List.mem_of_getElem? (i := 162) rfl)
theorem kw_403 : Cond.code y_Ro_begins prog_4_method_9_code 3 (some FieldType.boolean) ∈ lw_tbl := xm_2 (List.mem_of_getElem? (i := 163) rfl)
theorem kw_404 : Cond.stringRef "MailParts" 237 "text/html" ∈ lw_tbl := xm_2 (List.mem_of_getElem? (i := 164) rfl)
theorem kw_405 : Cond.methodLink "MailParts" 239 y_Ro_is ∈ lw_tbl := xm_2 (List.mem_of_getElem? (i := 165) rfl)
theorem kw_406 : Cond.instanceMethod y_Ro_is ∈ lw_tbl := xm_2 (List.mem_of_getElem? (i := 166) rfl)
theorem kw_407 : Cond.selects "MailParts$Row" y_Ro_is y_Ro_is ∈ lw_tbl := xm_2 (List.mem_of_getElem? (i := 167) rfl)
theorem kw_408 : Cond.code y_Ro_is prog_4_method_10_code 2 (some FieldType.boolean) ∈ lw_tbl := xm_2 (List.mem_of_getElem? (i := 168) rfl)
theorem kw_409 : Cond.methodLink "MailParts$Row" 49 y_Ro_begins ∈ lw_tbl := xm_2 (List.mem_of_getElem? (i := 169) rfl)
theorem kw_410 : Cond.stringRef "MailParts" 242 "multipart/" ∈ lw_tbl := xm_2 (List.mem_of_getElem? (i := 170) rfl)
theorem kw_411 : Cond.stringRef "MailParts" 246 "multipart/alternative" ∈ lw_tbl := xm_2 (List.mem_of_getElem? (i := 171) rfl)
theorem kw_412 : Cond.stringRef "MailParts" 251 "multipart/digest" ∈ lw_tbl := xm_2 (List.mem_of_getElem? (i := 172) rfl)
theorem kw_413 : Cond.stringRef "MailParts" 259 "attachment" ∈ lw_tbl := xm_2 (List.mem_of_getElem? (i := 173) rfl)
theorem kw_414 : Cond.methodLink "MailParts" 261 y_Mp_hasBoundary ∈ lw_tbl := xm_2 (List.mem_of_getElem? (i := 174) rfl)
theorem kw_415 : Cond.privateMethod y_Mp_hasBoundary ∈ lw_tbl := xm_2 (List.mem_of_getElem? (i := 175) rfl)
theorem kw_416 : Cond.instanceMethod y_Mp_hasBoundary ∈ lw_tbl := xm_2 (List.mem_of_getElem? (i := 176) rfl)
theorem kw_417 : Cond.code y_Mp_hasBoundary prog_1_method_21_code 3 (some FieldType.boolean) ∈ lw_tbl := xm_2 (List.mem_of_getElem? (i := 177) rfl)
theorem kw_418 : Cond.methodLink "MailParts" 187 y_Va_keepParameter ∈ lw_tbl := xm_2 (List.mem_of_getElem? (i := 178) rfl)
theorem kw_419 : Cond.instanceMethod y_Va_keepParameter ∈ lw_tbl := xm_2 (List.mem_of_getElem? (i := 179) rfl)
theorem kw_420 : Cond.selects "MailParts$Value" y_Va_keepParameter y_Va_keepParameter ∈ lw_tbl := xm_2 (List.mem_of_getElem? (i := 180) rfl)
theorem kw_421 : Cond.code y_Va_keepParameter prog_5_method_3_code 6 (some FieldType.boolean) ∈ lw_tbl := xm_2 (List.mem_of_getElem? (i := 181) rfl)
theorem kw_422 : Cond.methodLink "MailParts$Value" 42 y_Va_isNamed ∈ lw_tbl := xm_2 (List.mem_of_getElem? (i := 182) rfl)
theorem kw_423 : Cond.privateMethod y_Va_isNamed ∈ lw_tbl := xm_2 (List.mem_of_getElem? (i := 183) rfl)
theorem kw_424 : Cond.instanceMethod y_Va_isNamed ∈ lw_tbl := xm_2 (List.mem_of_getElem? (i := 184) rfl)
theorem kw_425 : Cond.code y_Va_isNamed prog_5_method_6_code 5 (some FieldType.boolean) ∈ lw_tbl := xm_2 (List.mem_of_getElem? (i := 185) rfl)
theorem kw_426 : Cond.methodLink "MailParts$Value" 63 y_Ro_hasName ∈ lw_tbl := xm_2 (List.mem_of_getElem? (i := 186) rfl)
theorem kw_427 : Cond.methodLink "MailParts$Value" 46 y_Va_unquote ∈ lw_tbl := xm_2 (List.mem_of_getElem? (i := 187) rfl)
theorem kw_428 : Cond.privateMethod y_Va_unquote ∈ lw_tbl := xm_2 (List.mem_of_getElem? (i := 188) rfl)
theorem kw_429 : Cond.instanceMethod y_Va_unquote ∈ lw_tbl := xm_2 (List.mem_of_getElem? (i := 189) rfl)
theorem kw_430 : Cond.code y_Va_unquote prog_5_method_10_code 4 none ∈ lw_tbl := xm_2 (List.mem_of_getElem? (i := 190) rfl)
theorem kw_431 : Cond.methodLink "MailParts$Value" 70 y_Va_closing ∈ lw_tbl := xm_2 (List.mem_of_getElem? (i := 191) rfl)
theorem kw_432 : Cond.privateMethod y_Va_closing ∈ lw_tbl := xm_2 (List.mem_of_getElem? (i := 192) rfl)
theorem kw_433 : Cond.instanceMethod y_Va_closing ∈ lw_tbl := xm_2 (List.mem_of_getElem? (i := 193) rfl)
theorem kw_434 : Cond.code y_Va_closing prog_5_method_11_code 3 (some FieldType.int) ∈ lw_tbl := xm_2 (List.mem_of_getElem? (i := 194) rfl)
theorem kw_435 : Cond.methodLink "MailParts$Value" 49 y_Ro_clear ∈ lw_tbl := xm_2 (List.mem_of_getElem? (i := 195) rfl)
theorem kw_436 : Cond.methodLink "MailParts" 195 y_Ro_addRange ∈ lw_tbl := xm_2 (List.mem_of_getElem? (i := 196) rfl)
theorem kw_437 : Cond.methodLink "MailParts" 265 y_Mp_isOpenCoding ∈ lw_tbl := xm_2 (List.mem_of_getElem? (i := 197) rfl)
theorem kw_438 : Cond.privateMethod y_Mp_isOpenCoding ∈ lw_tbl := xm_2 (List.mem_of_getElem? (i := 198) rfl)
theorem kw_439 : Cond.instanceMethod y_Mp_isOpenCoding ∈ lw_tbl := xm_2 (List.mem_of_getElem? (i := 199) rfl)
theorem kw_440 : Cond.code y_Mp_isOpenCoding prog_1_method_22_code 3 (some FieldType.boolean) ∈ lw_tbl := xm_2 (List.mem_of_getElem? (i := 200) rfl)
theorem kw_441 : Cond.stringRef "MailParts" 280 "7bit" ∈ lw_tbl := xm_2 (List.mem_of_getElem? (i := 201) rfl)
theorem kw_442 : Cond.stringRef "MailParts" 282 "8bit" ∈ lw_tbl := xm_2 (List.mem_of_getElem? (i := 202) rfl)
theorem kw_443 : Cond.stringRef "MailParts" 284 "binary" ∈ lw_tbl := xm_2 (List.mem_of_getElem? (i := 203) rfl)
theorem kw_444 : Cond.methodLink "MailParts" 220 y_Mp_openParts ∈ lw_tbl := xm_2 (List.mem_of_getElem? (i := 204) rfl)
theorem kw_445 : Cond.privateMethod y_Mp_openParts ∈ lw_tbl := xm_2 (List.mem_of_getElem? (i := 205) rfl)
theorem kw_446 : Cond.instanceMethod y_Mp_openParts ∈ lw_tbl := xm_2 (List.mem_of_getElem? (i := 206) rfl)
theorem kw_447 : Cond.code y_Mp_openParts prog_1_method_19_code 8 none ∈ lw_tbl := xm_2 (List.mem_of_getElem? (i := 207) rfl)
theorem kw_448 : Cond.methodLink "MailParts" 224 y_Ma_markOf ∈ lw_tbl := xm_2 (List.mem_of_getElem? (i := 208) rfl)
theorem kw_449 : Cond.instanceMethod y_Ma_markOf ∈ lw_tbl := xm_2 (List.mem_of_getElem? (i := 209) rfl)
theorem kw_450 : Cond.selects "MailParts$Mail" y_Ma_markOf y_Ma_markOf ∈ lw_tbl := xm_2 (List.mem_of_getElem? (i := 210) rfl)
theorem kw_451 : Cond.code y_Ma_markOf prog_3_method_13_code 7 (some FieldType.int) ∈ lw_tbl := xm_2 (List.mem_of_getElem? (i := 211) rfl)
theorem kw_452 : Cond.methodLink "MailParts$Mail" 75 y_Ma_hasDashes ∈ lw_tbl := xm_2 (List.mem_of_getElem? (i := 212) rfl)
theorem kw_453 : Cond.privateMethod y_Ma_hasDashes ∈ lw_tbl := xm_2 (List.mem_of_getElem? (i := 213) rfl)
theorem kw_454 : Cond.instanceMethod y_Ma_hasDashes ∈ lw_tbl := xm_2 (List.mem_of_getElem? (i := 214) rfl)
theorem kw_455 : Cond.code y_Ma_hasDashes prog_3_method_14_code 3 (some FieldType.boolean) ∈ lw_tbl := xm_2 (List.mem_of_getElem? (i := 215) rfl)
theorem kw_456 : Cond.methodLink "MailParts" 126 y_Mp_chooseTexts ∈ lw_tbl := xm_2 (List.mem_of_getElem? (i := 216) rfl)
theorem kw_457 : Cond.privateMethod y_Mp_chooseTexts ∈ lw_tbl := xm_2 (List.mem_of_getElem? (i := 217) rfl)
theorem kw_458 : Cond.instanceMethod y_Mp_chooseTexts ∈ lw_tbl := xm_2 (List.mem_of_getElem? (i := 218) rfl)
theorem kw_459 : Cond.code y_Mp_chooseTexts prog_1_method_23_code 4 none ∈ lw_tbl := xm_2 (List.mem_of_getElem? (i := 219) rfl)
theorem kw_460 : Cond.methodLink "MailParts" 129 y_Mp_listLeaves ∈ lw_tbl := xm_2 (List.mem_of_getElem? (i := 220) rfl)
theorem kw_461 : Cond.privateMethod y_Mp_listLeaves ∈ lw_tbl := xm_2 (List.mem_of_getElem? (i := 221) rfl)
theorem kw_462 : Cond.instanceMethod y_Mp_listLeaves ∈ lw_tbl := xm_2 (List.mem_of_getElem? (i := 222) rfl)
theorem kw_463 : Cond.code y_Mp_listLeaves prog_1_method_24_code 4 none ∈ lw_tbl := xm_2 (List.mem_of_getElem? (i := 223) rfl)
theorem kw_464 : Cond.methodLink "MailPartsLaw" 28 y_Mp_entity ∈ lw_tbl := xm_2 (List.mem_of_getElem? (i := 224) rfl)
theorem kw_465 : Cond.instanceMethod y_Mp_entity ∈ lw_tbl := xm_2 (List.mem_of_getElem? (i := 225) rfl)
theorem kw_466 : Cond.selects "MailParts" y_Mp_entity y_Mp_entity ∈ lw_tbl := xm_2 (List.mem_of_getElem? (i := 226) rfl)
theorem kw_467 : Cond.code y_Mp_entity prog_1_method_5_code 4 (some FieldType.int) ∈ lw_tbl := xm_2 (List.mem_of_getElem? (i := 227) rfl)
theorem kw_468 : Cond.methodLink "MailParts" 152 y_Ma_startOf ∈ lw_tbl := xm_2 (List.mem_of_getElem? (i := 228) rfl)
theorem kw_469 : Cond.methodLink "MailParts" 170 y_Mp_countFields ∈ lw_tbl := xm_2 (List.mem_of_getElem? (i := 229) rfl)
theorem kw_470 : Cond.privateMethod y_Mp_countFields ∈ lw_tbl := xm_2 (List.mem_of_getElem? (i := 230) rfl)
theorem kw_471 : Cond.instanceMethod y_Mp_countFields ∈ lw_tbl := xm_2 (List.mem_of_getElem? (i := 231) rfl)
theorem kw_472 : Cond.code y_Mp_countFields prog_1_method_17_code 5 (some FieldType.int) ∈ lw_tbl := xm_2 (List.mem_of_getElem? (i := 232) rfl)
theorem kw_473 : Cond.methodLink "MailParts" 202 y_Ma_colonOf ∈ lw_tbl := xm_2 (List.mem_of_getElem? (i := 233) rfl)
theorem kw_474 : Cond.methodLink "MailPartsLaw" 33 y_Mp_length ∈ lw_tbl := xm_2 (List.mem_of_getElem? (i := 234) rfl)
theorem kw_475 : Cond.instanceMethod y_Mp_length ∈ lw_tbl := xm_2 (List.mem_of_getElem? (i := 235) rfl)
theorem kw_476 : Cond.selects "MailParts" y_Mp_length y_Mp_length ∈ lw_tbl := xm_2 (List.mem_of_getElem? (i := 236) rfl)
theorem kw_477 : Cond.code y_Mp_length prog_1_method_6_code 3 (some FieldType.int) ∈ lw_tbl := xm_2 (List.mem_of_getElem? (i := 237) rfl)
theorem kw_478 : Cond.methodLink "MailParts" 174 y_Mp_loadWord ∈ lw_tbl := xm_2 (List.mem_of_getElem? (i := 238) rfl)
theorem kw_479 : Cond.privateMethod y_Mp_loadWord ∈ lw_tbl := xm_2 (List.mem_of_getElem? (i := 239) rfl)
theorem kw_480 : Cond.instanceMethod y_Mp_loadWord ∈ lw_tbl := xm_3 (List.mem_of_getElem? (i := 0) rfl)
theorem kw_481 : Cond.code y_Mp_loadWord prog_1_method_25_code 4 (some FieldType.boolean) ∈ lw_tbl := xm_3 (List.mem_of_getElem? (i := 1) rfl)
theorem kw_482 : Cond.methodLink "MailParts" 289 y_Mp_loadName ∈ lw_tbl := xm_3 (List.mem_of_getElem? (i := 2) rfl)
theorem kw_483 : Cond.privateMethod y_Mp_loadName ∈ lw_tbl := xm_3 (List.mem_of_getElem? (i := 3) rfl)
theorem kw_484 : Cond.instanceMethod y_Mp_loadName ∈ lw_tbl := xm_3 (List.mem_of_getElem? (i := 4) rfl)
theorem kw_485 : Cond.code y_Mp_loadName prog_1_method_27_code 2 none ∈ lw_tbl := xm_3 (List.mem_of_getElem? (i := 5) rfl)
theorem kw_486 : Cond.methodLink "MailPartsLaw" 37 y_Mp_at ∈ lw_tbl := xm_3 (List.mem_of_getElem? (i := 6) rfl)
theorem kw_487 : Cond.instanceMethod y_Mp_at ∈ lw_tbl := xm_3 (List.mem_of_getElem? (i := 7) rfl)
theorem kw_488 : Cond.selects "MailParts" y_Mp_at y_Mp_at ∈ lw_tbl := xm_3 (List.mem_of_getElem? (i := 8) rfl)
theorem kw_489 : Cond.code y_Mp_at prog_1_method_7_code 4 (some FieldType.int) ∈ lw_tbl := xm_3 (List.mem_of_getElem? (i := 9) rfl)
theorem kw_490 : Cond.methodLink "MailPartsLaw" 42 y_Mp_field ∈ lw_tbl := xm_3 (List.mem_of_getElem? (i := 10) rfl)
theorem kw_491 : Cond.instanceMethod y_Mp_field ∈ lw_tbl := xm_3 (List.mem_of_getElem? (i := 11) rfl)
theorem kw_492 : Cond.selects "MailParts" y_Mp_field y_Mp_field ∈ lw_tbl := xm_3 (List.mem_of_getElem? (i := 12) rfl)
theorem kw_493 : Cond.code y_Mp_field prog_1_method_8_code 4 (some FieldType.int) ∈ lw_tbl := xm_3 (List.mem_of_getElem? (i := 13) rfl)
theorem kw_494 : Cond.methodLink "MailParts" 183 y_Mp_answerOnTape ∈ lw_tbl := xm_3 (List.mem_of_getElem? (i := 14) rfl)
theorem kw_495 : Cond.privateMethod y_Mp_answerOnTape ∈ lw_tbl := xm_3 (List.mem_of_getElem? (i := 15) rfl)
theorem kw_496 : Cond.instanceMethod y_Mp_answerOnTape ∈ lw_tbl := xm_3 (List.mem_of_getElem? (i := 16) rfl)
theorem kw_497 : Cond.code y_Mp_answerOnTape prog_1_method_16_code 2 (some FieldType.int) ∈ lw_tbl := xm_3 (List.mem_of_getElem? (i := 17) rfl)
theorem kw_498 : Cond.methodLink "MailPartsLaw" 46 y_Mp_parameter ∈ lw_tbl := xm_3 (List.mem_of_getElem? (i := 18) rfl)
theorem kw_499 : Cond.instanceMethod y_Mp_parameter ∈ lw_tbl := xm_3 (List.mem_of_getElem? (i := 19) rfl)
theorem kw_500 : Cond.selects "MailParts" y_Mp_parameter y_Mp_parameter ∈ lw_tbl := xm_3 (List.mem_of_getElem? (i := 20) rfl)
theorem kw_501 : Cond.code y_Mp_parameter prog_1_method_9_code 4 (some FieldType.int) ∈ lw_tbl := xm_3 (List.mem_of_getElem? (i := 21) rfl)
theorem kw_502 : Cond.methodLink "MailPartsLaw" 50 y_Mp_byteAt ∈ lw_tbl := xm_3 (List.mem_of_getElem? (i := 22) rfl)
theorem kw_503 : Cond.instanceMethod y_Mp_byteAt ∈ lw_tbl := xm_3 (List.mem_of_getElem? (i := 23) rfl)
theorem kw_504 : Cond.selects "MailParts" y_Mp_byteAt y_Mp_byteAt ∈ lw_tbl := xm_3 (List.mem_of_getElem? (i := 24) rfl)
theorem kw_505 : Cond.code y_Mp_byteAt prog_1_method_10_code 2 (some FieldType.int) ∈ lw_tbl := xm_3 (List.mem_of_getElem? (i := 25) rfl)
theorem kw_506 : Cond.methodLink "MailPartsLaw" 54 y_Mp_text ∈ lw_tbl := xm_3 (List.mem_of_getElem? (i := 26) rfl)
theorem kw_507 : Cond.instanceMethod y_Mp_text ∈ lw_tbl := xm_3 (List.mem_of_getElem? (i := 27) rfl)
theorem kw_508 : Cond.selects "MailParts" y_Mp_text y_Mp_text ∈ lw_tbl := xm_3 (List.mem_of_getElem? (i := 28) rfl)
theorem kw_509 : Cond.code y_Mp_text prog_1_method_11_code 3 (some FieldType.int) ∈ lw_tbl := xm_3 (List.mem_of_getElem? (i := 29) rfl)
theorem kw_510 : Cond.methodLink "MailPartsLaw" 59 y_Mp_body ∈ lw_tbl := xm_3 (List.mem_of_getElem? (i := 30) rfl)
theorem kw_511 : Cond.instanceMethod y_Mp_body ∈ lw_tbl := xm_3 (List.mem_of_getElem? (i := 31) rfl)
theorem kw_512 : Cond.selects "MailParts" y_Mp_body y_Mp_body ∈ lw_tbl := xm_3 (List.mem_of_getElem? (i := 32) rfl)
theorem kw_513 : Cond.code y_Mp_body prog_1_method_12_code 4 (some FieldType.int) ∈ lw_tbl := xm_3 (List.mem_of_getElem? (i := 33) rfl)
theorem kw_514 : Cond.methodLink "MailParts" 191 y_Ma_copyLines ∈ lw_tbl := xm_3 (List.mem_of_getElem? (i := 34) rfl)
theorem kw_515 : Cond.instanceMethod y_Ma_copyLines ∈ lw_tbl := xm_3 (List.mem_of_getElem? (i := 35) rfl)
theorem kw_516 : Cond.selects "MailParts$Mail" y_Ma_copyLines y_Ma_copyLines ∈ lw_tbl := xm_3 (List.mem_of_getElem? (i := 36) rfl)
theorem kw_517 : Cond.code y_Ma_copyLines prog_3_method_12_code 5 none ∈ lw_tbl := xm_3 (List.mem_of_getElem? (i := 37) rfl)
theorem kw_518 : Cond.methodLink "MailParts$Mail" 72 y_Ro_add ∈ lw_tbl := xm_3 (List.mem_of_getElem? (i := 38) rfl)
theorem kw_519 : Cond.methodLink "MailPartsLaw" 63 y_Mp_count ∈ lw_tbl := xm_3 (List.mem_of_getElem? (i := 39) rfl)
theorem kw_520 : Cond.instanceMethod y_Mp_count ∈ lw_tbl := xm_3 (List.mem_of_getElem? (i := 40) rfl)
theorem kw_521 : Cond.selects "MailParts" y_Mp_count y_Mp_count ∈ lw_tbl := xm_3 (List.mem_of_getElem? (i := 41) rfl)
theorem kw_522 : Cond.code y_Mp_count prog_1_method_13_code 2 (some FieldType.int) ∈ lw_tbl := xm_3 (List.mem_of_getElem? (i := 42) rfl)
theorem kw_523 : Cond.classLink "MailPartsLaw" 10 "MailPartsModel" ∈ lw_tbl := xm_3 (List.mem_of_getElem? (i := 43) rfl)
theorem kw_524 : Cond.instantiable "MailPartsModel" 57 ∈ lw_tbl := xm_3 (List.mem_of_getElem? (i := 44) rfl)
theorem kw_525 : Cond.methodLink "MailPartsLaw" 12 y_Mo_init ∈ lw_tbl := xm_3 (List.mem_of_getElem? (i := 45) rfl)
theorem kw_526 : Cond.instanceMethod y_Mo_init ∈ lw_tbl := xm_3 (List.mem_of_getElem? (i := 46) rfl)
theorem kw_527 : Cond.code y_Mo_init prog_7_method_1_code 1 none ∈ lw_tbl := xm_3 (List.mem_of_getElem? (i := 47) rfl)
theorem kw_528 : Cond.methodLink "MailPartsModel" 1 ⟨"java/lang/Object", "<init>", "()V"⟩ ∈ lw_tbl := xm_3 (List.mem_of_getElem? (i := 48) rfl)
theorem kw_529 : Cond.fieldLink "MailPartsModel" 7 "MailPartsModel" "CONTENT" "[I" ∈ lw_tbl := xm_3 (List.mem_of_getElem? (i := 49) rfl)
theorem kw_530 : Cond.fieldLink "MailPartsModel" 13 "MailPartsModel" "TRANSFER" "[I" ∈ lw_tbl := xm_3 (List.mem_of_getElem? (i := 50) rfl)
theorem kw_531 : Cond.fieldLink "MailPartsModel" 16 "MailPartsModel" "DISPOSITION" "[I" ∈ lw_tbl := xm_3 (List.mem_of_getElem? (i := 51) rfl)
theorem kw_532 : Cond.fieldLink "MailPartsModel" 19 "MailPartsModel" "BOUNDARY_NAME" "[I" ∈ lw_tbl := xm_3 (List.mem_of_getElem? (i := 52) rfl)
theorem kw_533 : Cond.fieldLink "MailPartsModel" 22 "MailPartsModel" "FILE_NAME" "[I" ∈ lw_tbl := xm_3 (List.mem_of_getElem? (i := 53) rfl)
theorem kw_534 : Cond.fieldLink "MailPartsModel" 25 "MailPartsModel" "NAME" "[I" ∈ lw_tbl := xm_3 (List.mem_of_getElem? (i := 54) rfl)
theorem kw_535 : Cond.fieldLink "MailPartsModel" 28 "MailPartsModel" "PLAIN" "[I" ∈ lw_tbl := xm_3 (List.mem_of_getElem? (i := 55) rfl)
theorem kw_536 : Cond.fieldLink "MailPartsModel" 31 "MailPartsModel" "HTML" "[I" ∈ lw_tbl := xm_3 (List.mem_of_getElem? (i := 56) rfl)
theorem kw_537 : Cond.fieldLink "MailPartsModel" 34 "MailPartsModel" "TEXT" "[I" ∈ lw_tbl := xm_3 (List.mem_of_getElem? (i := 57) rfl)
theorem kw_538 : Cond.fieldLink "MailPartsModel" 37 "MailPartsModel" "MULTIPART" "[I" ∈ lw_tbl := xm_3 (List.mem_of_getElem? (i := 58) rfl)
theorem kw_539 : Cond.fieldLink "MailPartsModel" 40 "MailPartsModel" "DIGEST" "[I" ∈ lw_tbl := xm_3 (List.mem_of_getElem? (i := 59) rfl)
theorem kw_540 : Cond.fieldLink "MailPartsModel" 43 "MailPartsModel" "ALTERNATIVE" "[I" ∈ lw_tbl := xm_3 (List.mem_of_getElem? (i := 60) rfl)
theorem kw_541 : Cond.fieldLink "MailPartsModel" 46 "MailPartsModel" "MESSAGE" "[I" ∈ lw_tbl := xm_3 (List.mem_of_getElem? (i := 61) rfl)
theorem kw_542 : Cond.fieldLink "MailPartsModel" 49 "MailPartsModel" "ATTACHMENT" "[I" ∈ lw_tbl := xm_3 (List.mem_of_getElem? (i := 62) rfl)
theorem kw_543 : Cond.fieldLink "MailPartsModel" 52 "MailPartsModel" "SEVEN" "[I" ∈ lw_tbl := xm_3 (List.mem_of_getElem? (i := 63) rfl)
theorem kw_544 : Cond.fieldLink "MailPartsModel" 55 "MailPartsModel" "EIGHT" "[I" ∈ lw_tbl := xm_3 (List.mem_of_getElem? (i := 64) rfl)
theorem kw_545 : Cond.fieldLink "MailPartsModel" 58 "MailPartsModel" "BINARY" "[I" ∈ lw_tbl := xm_3 (List.mem_of_getElem? (i := 65) rfl)
theorem kw_546 : Cond.fieldLink "MailPartsModel" 61 "MailPartsModel" "ready" "[B" ∈ lw_tbl := xm_3 (List.mem_of_getElem? (i := 66) rfl)
theorem kw_547 : Cond.fieldLink "MailPartsModel" 65 "MailPartsModel" "tape" "[B" ∈ lw_tbl := xm_3 (List.mem_of_getElem? (i := 67) rfl)
theorem kw_548 : Cond.fieldLink "MailPartsModel" 281 "MailPartsModel" "taped" "I" ∈ lw_tbl := xm_3 (List.mem_of_getElem? (i := 68) rfl)
theorem kw_549 : Cond.fieldLink "MailPartsModel" 68 "MailPartsModel" "mail" "[B" ∈ lw_tbl := xm_3 (List.mem_of_getElem? (i := 69) rfl)
theorem kw_550 : Cond.fieldLink "MailPartsModel" 143 "MailPartsModel" "size" "I" ∈ lw_tbl := xm_3 (List.mem_of_getElem? (i := 70) rfl)
theorem kw_551 : Cond.fieldLink "MailPartsModel" 284 "MailPartsModel" "isRead" "Z" ∈ lw_tbl := xm_3 (List.mem_of_getElem? (i := 71) rfl)
theorem kw_552 : Cond.fieldLink "MailPartsModel" 139 "MailPartsModel" "lines" "I" ∈ lw_tbl := xm_3 (List.mem_of_getElem? (i := 72) rfl)
theorem kw_553 : Cond.fieldLink "MailPartsModel" 71 "MailPartsModel" "lineFrom" "[I" ∈ lw_tbl := xm_3 (List.mem_of_getElem? (i := 73) rfl)
theorem kw_554 : Cond.fieldLink "MailPartsModel" 74 "MailPartsModel" "lineTo" "[I" ∈ lw_tbl := xm_3 (List.mem_of_getElem? (i := 74) rfl)
theorem kw_555 : Cond.fieldLink "MailPartsModel" 258 "MailPartsModel" "entities" "I" ∈ lw_tbl := xm_3 (List.mem_of_getElem? (i := 75) rfl)
theorem kw_556 : Cond.fieldLink "MailPartsModel" 261 "MailPartsModel" "lost" "I" ∈ lw_tbl := xm_3 (List.mem_of_getElem? (i := 76) rfl)
theorem kw_557 : Cond.fieldLink "MailPartsModel" 77 "MailPartsModel" "first" "[I" ∈ lw_tbl := xm_3 (List.mem_of_getElem? (i := 77) rfl)
theorem kw_558 : Cond.fieldLink "MailPartsModel" 80 "MailPartsModel" "end" "[I" ∈ lw_tbl := xm_3 (List.mem_of_getElem? (i := 78) rfl)
theorem kw_559 : Cond.fieldLink "MailPartsModel" 83 "MailPartsModel" "headEnd" "[I" ∈ lw_tbl := xm_3 (List.mem_of_getElem? (i := 79) rfl)
theorem kw_560 : Cond.fieldLink "MailPartsModel" 86 "MailPartsModel" "body" "[I" ∈ lw_tbl := xm_3 (List.mem_of_getElem? (i := 80) rfl)
theorem kw_561 : Cond.fieldLink "MailPartsModel" 89 "MailPartsModel" "around" "[I" ∈ lw_tbl := xm_3 (List.mem_of_getElem? (i := 81) rfl)
theorem kw_562 : Cond.fieldLink "MailPartsModel" 92 "MailPartsModel" "depth" "[I" ∈ lw_tbl := xm_3 (List.mem_of_getElem? (i := 82) rfl)
theorem kw_563 : Cond.fieldLink "MailPartsModel" 95 "MailPartsModel" "kind" "[I" ∈ lw_tbl := xm_3 (List.mem_of_getElem? (i := 83) rfl)
theorem kw_564 : Cond.fieldLink "MailPartsModel" 98 "MailPartsModel" "texts" "[J" ∈ lw_tbl := xm_3 (List.mem_of_getElem? (i := 84) rfl)
theorem kw_565 : Cond.fieldLink "MailPartsModel" 278 "MailPartsModel" "shown" "J" ∈ lw_tbl := xm_3 (List.mem_of_getElem? (i := 85) rfl)
theorem kw_566 : Cond.fieldLink "MailPartsModel" 267 "MailPartsModel" "html" "J" ∈ lw_tbl := xm_3 (List.mem_of_getElem? (i := 86) rfl)
theorem kw_567 : Cond.fieldLink "MailPartsModel" 232 "MailPartsModel" "tasks" "I" ∈ lw_tbl := xm_3 (List.mem_of_getElem? (i := 87) rfl)
theorem kw_568 : Cond.fieldLink "MailPartsModel" 102 "MailPartsModel" "taskFrom" "[I" ∈ lw_tbl := xm_3 (List.mem_of_getElem? (i := 88) rfl)
theorem kw_569 : Cond.fieldLink "MailPartsModel" 105 "MailPartsModel" "taskTo" "[I" ∈ lw_tbl := xm_3 (List.mem_of_getElem? (i := 89) rfl)
theorem kw_570 : Cond.fieldLink "MailPartsModel" 108 "MailPartsModel" "taskIn" "[I" ∈ lw_tbl := xm_3 (List.mem_of_getElem? (i := 90) rfl)
theorem kw_571 : Cond.fieldLink "MailPartsModel" 223 "MailPartsModel" "parts" "I" ∈ lw_tbl := xm_3 (List.mem_of_getElem? (i := 91) rfl)
theorem kw_572 : Cond.fieldLink "MailPartsModel" 111 "MailPartsModel" "partFrom" "[I" ∈ lw_tbl := xm_3 (List.mem_of_getElem? (i := 92) rfl)
theorem kw_573 : Cond.fieldLink "MailPartsModel" 114 "MailPartsModel" "partTo" "[I" ∈ lw_tbl := xm_3 (List.mem_of_getElem? (i := 93) rfl)
theorem kw_574 : Cond.fieldLink "MailPartsModel" 117 "MailPartsModel" "value" "[B" ∈ lw_tbl := xm_3 (List.mem_of_getElem? (i := 94) rfl)
theorem kw_575 : Cond.fieldLink "MailPartsModel" 156 "MailPartsModel" "valueSize" "I" ∈ lw_tbl := xm_3 (List.mem_of_getElem? (i := 95) rfl)
theorem kw_576 : Cond.fieldLink "MailPartsModel" 169 "MailPartsModel" "items" "I" ∈ lw_tbl := xm_3 (List.mem_of_getElem? (i := 96) rfl)
theorem kw_577 : Cond.fieldLink "MailPartsModel" 163 "MailPartsModel" "from" "I" ∈ lw_tbl := xm_3 (List.mem_of_getElem? (i := 97) rfl)
theorem kw_578 : Cond.fieldLink "MailPartsModel" 166 "MailPartsModel" "to" "I" ∈ lw_tbl := xm_3 (List.mem_of_getElem? (i := 98) rfl)
theorem kw_579 : Cond.fieldLink "MailPartsModel" 120 "MailPartsModel" "itemFrom" "[I" ∈ lw_tbl := xm_3 (List.mem_of_getElem? (i := 99) rfl)
theorem kw_580 : Cond.fieldLink "MailPartsModel" 123 "MailPartsModel" "itemTo" "[I" ∈ lw_tbl := xm_3 (List.mem_of_getElem? (i := 100) rfl)
theorem kw_581 : Cond.fieldLink "MailPartsModel" 126 "MailPartsModel" "got" "[B" ∈ lw_tbl := xm_3 (List.mem_of_getElem? (i := 101) rfl)
theorem kw_582 : Cond.fieldLink "MailPartsModel" 180 "MailPartsModel" "gotSize" "I" ∈ lw_tbl := xm_3 (List.mem_of_getElem? (i := 102) rfl)
theorem kw_583 : Cond.fieldLink "MailPartsModel" 129 "MailPartsModel" "mark" "[B" ∈ lw_tbl := xm_3 (List.mem_of_getElem? (i := 103) rfl)
theorem kw_584 : Cond.fieldLink "MailPartsModel" 220 "MailPartsModel" "markSize" "I" ∈ lw_tbl := xm_3 (List.mem_of_getElem? (i := 104) rfl)
theorem kw_585 : Cond.fieldLink "MailPartsModel" 132 "MailPartsModel" "asked" "[I" ∈ lw_tbl := xm_3 (List.mem_of_getElem? (i := 105) rfl)
theorem kw_586 : Cond.laysFinal "MailPartsModel" "MailPartsModel" "CONTENT" "[I" ∈ lw_tbl := xm_3 (List.mem_of_getElem? (i := 106) rfl)
theorem kw_588 : Cond.laysFinal "MailPartsModel" "MailPartsModel" "TRANSFER" "[I" ∈ lw_tbl := xm_3 (List.mem_of_getElem? (i := 108) rfl)
theorem kw_590 : Cond.laysFinal "MailPartsModel" "MailPartsModel" "DISPOSITION" "[I" ∈ lw_tbl := xm_3 (List.mem_of_getElem? (i := 110) rfl)
theorem kw_592 : Cond.laysFinal "MailPartsModel" "MailPartsModel" "BOUNDARY_NAME" "[I" ∈ lw_tbl := xm_3 (List.mem_of_getElem? (i := 112) rfl)
theorem kw_594 : Cond.laysFinal "MailPartsModel" "MailPartsModel" "FILE_NAME" "[I" ∈ lw_tbl := xm_3 (List.mem_of_getElem? (i := 114) rfl)
theorem kw_596 : Cond.laysFinal "MailPartsModel" "MailPartsModel" "NAME" "[I" ∈ lw_tbl := xm_3 (List.mem_of_getElem? (i := 116) rfl)
theorem kw_598 : Cond.laysFinal "MailPartsModel" "MailPartsModel" "PLAIN" "[I" ∈ lw_tbl := xm_3 (List.mem_of_getElem? (i := 118) rfl)
theorem kw_600 : Cond.laysFinal "MailPartsModel" "MailPartsModel" "HTML" "[I" ∈ lw_tbl := xm_3 (List.mem_of_getElem? (i := 120) rfl)
theorem kw_602 : Cond.laysFinal "MailPartsModel" "MailPartsModel" "TEXT" "[I" ∈ lw_tbl := xm_3 (List.mem_of_getElem? (i := 122) rfl)
theorem kw_604 : Cond.laysFinal "MailPartsModel" "MailPartsModel" "MULTIPART" "[I" ∈ lw_tbl := xm_3 (List.mem_of_getElem? (i := 124) rfl)
theorem kw_606 : Cond.laysFinal "MailPartsModel" "MailPartsModel" "DIGEST" "[I" ∈ lw_tbl := xm_3 (List.mem_of_getElem? (i := 126) rfl)
theorem kw_608 : Cond.laysFinal "MailPartsModel" "MailPartsModel" "ALTERNATIVE" "[I" ∈ lw_tbl := xm_3 (List.mem_of_getElem? (i := 128) rfl)
theorem kw_610 : Cond.laysFinal "MailPartsModel" "MailPartsModel" "MESSAGE" "[I" ∈ lw_tbl := xm_3 (List.mem_of_getElem? (i := 130) rfl)
theorem kw_612 : Cond.laysFinal "MailPartsModel" "MailPartsModel" "ATTACHMENT" "[I" ∈ lw_tbl := xm_3 (List.mem_of_getElem? (i := 132) rfl)
theorem kw_614 : Cond.laysFinal "MailPartsModel" "MailPartsModel" "SEVEN" "[I" ∈ lw_tbl := xm_3 (List.mem_of_getElem? (i := 134) rfl)
theorem kw_616 : Cond.laysFinal "MailPartsModel" "MailPartsModel" "EIGHT" "[I" ∈ lw_tbl := xm_3 (List.mem_of_getElem? (i := 136) rfl)
theorem kw_618 : Cond.laysFinal "MailPartsModel" "MailPartsModel" "BINARY" "[I" ∈ lw_tbl := xm_3 (List.mem_of_getElem? (i := 138) rfl)
theorem kw_620 : Cond.laysFinal "MailPartsModel" "MailPartsModel" "ready" "[B" ∈ lw_tbl := xm_3 (List.mem_of_getElem? (i := 140) rfl)
theorem kw_622 : Cond.laysFinal "MailPartsModel" "MailPartsModel" "tape" "[B" ∈ lw_tbl := xm_3 (List.mem_of_getElem? (i := 142) rfl)
theorem kw_624 : Cond.lays "MailPartsModel" "MailPartsModel" "taped" "I" ∈ lw_tbl := xm_3 (List.mem_of_getElem? (i := 144) rfl)
theorem kw_626 : Cond.laysFinal "MailPartsModel" "MailPartsModel" "mail" "[B" ∈ lw_tbl := xm_3 (List.mem_of_getElem? (i := 146) rfl)
theorem kw_628 : Cond.lays "MailPartsModel" "MailPartsModel" "size" "I" ∈ lw_tbl := xm_3 (List.mem_of_getElem? (i := 148) rfl)
theorem kw_630 : Cond.lays "MailPartsModel" "MailPartsModel" "isRead" "Z" ∈ lw_tbl := xm_3 (List.mem_of_getElem? (i := 150) rfl)
theorem kw_632 : Cond.lays "MailPartsModel" "MailPartsModel" "lines" "I" ∈ lw_tbl := xm_3 (List.mem_of_getElem? (i := 152) rfl)
theorem kw_634 : Cond.laysFinal "MailPartsModel" "MailPartsModel" "lineFrom" "[I" ∈ lw_tbl := xm_3 (List.mem_of_getElem? (i := 154) rfl)
theorem kw_636 : Cond.laysFinal "MailPartsModel" "MailPartsModel" "lineTo" "[I" ∈ lw_tbl := xm_3 (List.mem_of_getElem? (i := 156) rfl)
theorem kw_638 : Cond.lays "MailPartsModel" "MailPartsModel" "entities" "I" ∈ lw_tbl := xm_3 (List.mem_of_getElem? (i := 158) rfl)
theorem kw_640 : Cond.lays "MailPartsModel" "MailPartsModel" "lost" "I" ∈ lw_tbl := xm_3 (List.mem_of_getElem? (i := 160) rfl)
theorem kw_642 : Cond.laysFinal "MailPartsModel" "MailPartsModel" "first" "[I" ∈ lw_tbl := xm_3 (List.mem_of_getElem? (i := 162) rfl)
theorem kw_644 : Cond.laysFinal "MailPartsModel" "MailPartsModel" "end" "[I" ∈ lw_tbl := xm_3 (List.mem_of_getElem? (i := 164) rfl)
theorem kw_646 : Cond.laysFinal "MailPartsModel" "MailPartsModel" "headEnd" "[I" ∈ lw_tbl := xm_3 (List.mem_of_getElem? (i := 166) rfl)
theorem kw_648 : Cond.laysFinal "MailPartsModel" "MailPartsModel" "body" "[I" ∈ lw_tbl := xm_3 (List.mem_of_getElem? (i := 168) rfl)
theorem kw_650 : Cond.laysFinal "MailPartsModel" "MailPartsModel" "around" "[I" ∈ lw_tbl := xm_3 (List.mem_of_getElem? (i := 170) rfl)
theorem kw_652 : Cond.laysFinal "MailPartsModel" "MailPartsModel" "depth" "[I" ∈ lw_tbl := xm_3 (List.mem_of_getElem? (i := 172) rfl)
theorem kw_654 : Cond.laysFinal "MailPartsModel" "MailPartsModel" "kind" "[I" ∈ lw_tbl := xm_3 (List.mem_of_getElem? (i := 174) rfl)
theorem kw_656 : Cond.laysFinal "MailPartsModel" "MailPartsModel" "texts" "[J" ∈ lw_tbl := xm_3 (List.mem_of_getElem? (i := 176) rfl)
theorem kw_658 : Cond.lays "MailPartsModel" "MailPartsModel" "shown" "J" ∈ lw_tbl := xm_3 (List.mem_of_getElem? (i := 178) rfl)
theorem kw_660 : Cond.lays "MailPartsModel" "MailPartsModel" "html" "J" ∈ lw_tbl := xm_3 (List.mem_of_getElem? (i := 180) rfl)
theorem kw_662 : Cond.lays "MailPartsModel" "MailPartsModel" "tasks" "I" ∈ lw_tbl := xm_3 (List.mem_of_getElem? (i := 182) rfl)
theorem kw_664 : Cond.laysFinal "MailPartsModel" "MailPartsModel" "taskFrom" "[I" ∈ lw_tbl := xm_3 (List.mem_of_getElem? (i := 184) rfl)
theorem kw_666 : Cond.laysFinal "MailPartsModel" "MailPartsModel" "taskTo" "[I" ∈ lw_tbl := xm_3 (List.mem_of_getElem? (i := 186) rfl)
theorem kw_668 : Cond.laysFinal "MailPartsModel" "MailPartsModel" "taskIn" "[I" ∈ lw_tbl := xm_3 (List.mem_of_getElem? (i := 188) rfl)
theorem kw_670 : Cond.lays "MailPartsModel" "MailPartsModel" "parts" "I" ∈ lw_tbl := xm_3 (List.mem_of_getElem? (i := 190) rfl)
theorem kw_672 : Cond.laysFinal "MailPartsModel" "MailPartsModel" "partFrom" "[I" ∈ lw_tbl := xm_3 (List.mem_of_getElem? (i := 192) rfl)
theorem kw_674 : Cond.laysFinal "MailPartsModel" "MailPartsModel" "partTo" "[I" ∈ lw_tbl := xm_3 (List.mem_of_getElem? (i := 194) rfl)
theorem kw_676 : Cond.laysFinal "MailPartsModel" "MailPartsModel" "value" "[B" ∈ lw_tbl := xm_3 (List.mem_of_getElem? (i := 196) rfl)
theorem kw_678 : Cond.lays "MailPartsModel" "MailPartsModel" "valueSize" "I" ∈ lw_tbl := xm_3 (List.mem_of_getElem? (i := 198) rfl)
theorem kw_680 : Cond.lays "MailPartsModel" "MailPartsModel" "items" "I" ∈ lw_tbl := xm_3 (List.mem_of_getElem? (i := 200) rfl)
theorem kw_682 : Cond.lays "MailPartsModel" "MailPartsModel" "from" "I" ∈ lw_tbl := xm_3 (List.mem_of_getElem? (i := 202) rfl)
theorem kw_684 : Cond.lays "MailPartsModel" "MailPartsModel" "to" "I" ∈ lw_tbl := xm_3 (List.mem_of_getElem? (i := 204) rfl)
theorem kw_686 : Cond.laysFinal "MailPartsModel" "MailPartsModel" "itemFrom" "[I" ∈ lw_tbl := xm_3 (List.mem_of_getElem? (i := 206) rfl)
theorem kw_688 : Cond.laysFinal "MailPartsModel" "MailPartsModel" "itemTo" "[I" ∈ lw_tbl := xm_3 (List.mem_of_getElem? (i := 208) rfl)
theorem kw_690 : Cond.laysFinal "MailPartsModel" "MailPartsModel" "got" "[B" ∈ lw_tbl := xm_3 (List.mem_of_getElem? (i := 210) rfl)
theorem kw_692 : Cond.lays "MailPartsModel" "MailPartsModel" "gotSize" "I" ∈ lw_tbl := xm_3 (List.mem_of_getElem? (i := 212) rfl)
theorem kw_694 : Cond.laysFinal "MailPartsModel" "MailPartsModel" "mark" "[B" ∈ lw_tbl := xm_3 (List.mem_of_getElem? (i := 214) rfl)
theorem kw_696 : Cond.lays "MailPartsModel" "MailPartsModel" "markSize" "I" ∈ lw_tbl := xm_3 (List.mem_of_getElem? (i := 216) rfl)
theorem kw_698 : Cond.laysFinal "MailPartsModel" "MailPartsModel" "asked" "[I" ∈ lw_tbl := xm_3 (List.mem_of_getElem? (i := 218) rfl)
theorem kw_701 : Cond.arrayClass FieldType.long ∈ lw_tbl := xm_3 (List.mem_of_getElem? (i := 221) rfl)
theorem kw_702 : Cond.methodLink "MailPartsLaw" 17 y_Mo_feed ∈ lw_tbl := xm_3 (List.mem_of_getElem? (i := 222) rfl)
theorem kw_703 : Cond.instanceMethod y_Mo_feed ∈ lw_tbl := xm_3 (List.mem_of_getElem? (i := 223) rfl)
theorem kw_704 : Cond.selects "MailPartsModel" y_Mo_feed y_Mo_feed ∈ lw_tbl := xm_3 (List.mem_of_getElem? (i := 224) rfl)
theorem kw_705 : Cond.code y_Mo_feed prog_7_method_36_code 8 none ∈ lw_tbl := xm_3 (List.mem_of_getElem? (i := 225) rfl)
theorem kw_706 : Cond.methodLink "MailPartsLaw" 22 y_Mo_end ∈ lw_tbl := xm_3 (List.mem_of_getElem? (i := 226) rfl)
theorem kw_707 : Cond.instanceMethod y_Mo_end ∈ lw_tbl := xm_3 (List.mem_of_getElem? (i := 227) rfl)
theorem kw_708 : Cond.selects "MailPartsModel" y_Mo_end y_Mo_end ∈ lw_tbl := xm_3 (List.mem_of_getElem? (i := 228) rfl)
theorem kw_709 : Cond.code y_Mo_end prog_7_method_37_code 3 (some FieldType.int) ∈ lw_tbl := xm_3 (List.mem_of_getElem? (i := 229) rfl)
theorem kw_710 : Cond.methodLink "MailPartsLaw" 27 y_Mo_read ∈ lw_tbl := xm_3 (List.mem_of_getElem? (i := 230) rfl)
theorem kw_711 : Cond.instanceMethod y_Mo_read ∈ lw_tbl := xm_3 (List.mem_of_getElem? (i := 231) rfl)
theorem kw_712 : Cond.selects "MailPartsModel" y_Mo_read y_Mo_read ∈ lw_tbl := xm_3 (List.mem_of_getElem? (i := 232) rfl)
theorem kw_713 : Cond.code y_Mo_read prog_7_method_38_code 2 (some FieldType.int) ∈ lw_tbl := xm_3 (List.mem_of_getElem? (i := 233) rfl)
theorem kw_714 : Cond.methodLink "MailPartsModel" 288 y_Mo_split ∈ lw_tbl := xm_3 (List.mem_of_getElem? (i := 234) rfl)
theorem kw_715 : Cond.privateMethod y_Mo_split ∈ lw_tbl := xm_3 (List.mem_of_getElem? (i := 235) rfl)
theorem kw_716 : Cond.instanceMethod y_Mo_split ∈ lw_tbl := xm_3 (List.mem_of_getElem? (i := 236) rfl)
theorem kw_717 : Cond.code y_Mo_split prog_7_method_5_code 3 none ∈ lw_tbl := xm_3 (List.mem_of_getElem? (i := 237) rfl)
theorem kw_718 : Cond.methodLink "MailPartsModel" 291 y_Mo_build ∈ lw_tbl := xm_3 (List.mem_of_getElem? (i := 238) rfl)
theorem kw_719 : Cond.privateMethod y_Mo_build ∈ lw_tbl := xm_3 (List.mem_of_getElem? (i := 239) rfl)
theorem kw_720 : Cond.instanceMethod y_Mo_build ∈ lw_tbl := xm_4 (List.mem_of_getElem? (i := 0) rfl)
theorem kw_721 : Cond.code y_Mo_build prog_7_method_32_code 2 none ∈ lw_tbl := xm_4 (List.mem_of_getElem? (i := 1) rfl)
theorem kw_722 : Cond.methodLink "MailPartsModel" 251 y_Mo_push ∈ lw_tbl := xm_4 (List.mem_of_getElem? (i := 2) rfl)
theorem kw_723 : Cond.privateMethod y_Mo_push ∈ lw_tbl := xm_4 (List.mem_of_getElem? (i := 3) rfl)
theorem kw_724 : Cond.instanceMethod y_Mo_push ∈ lw_tbl := xm_4 (List.mem_of_getElem? (i := 4) rfl)
theorem kw_725 : Cond.code y_Mo_push prog_7_method_28_code 4 none ∈ lw_tbl := xm_4 (List.mem_of_getElem? (i := 5) rfl)
theorem kw_726 : Cond.methodLink "MailPartsModel" 264 y_Mo_look ∈ lw_tbl := xm_4 (List.mem_of_getElem? (i := 6) rfl)
theorem kw_727 : Cond.privateMethod y_Mo_look ∈ lw_tbl := xm_4 (List.mem_of_getElem? (i := 7) rfl)
theorem kw_728 : Cond.instanceMethod y_Mo_look ∈ lw_tbl := xm_4 (List.mem_of_getElem? (i := 8) rfl)
theorem kw_729 : Cond.code y_Mo_look prog_7_method_31_code 3 none ∈ lw_tbl := xm_4 (List.mem_of_getElem? (i := 9) rfl)
theorem kw_730 : Cond.methodLink "MailPartsModel" 242 y_Mo_findHead ∈ lw_tbl := xm_4 (List.mem_of_getElem? (i := 10) rfl)
theorem kw_731 : Cond.privateMethod y_Mo_findHead ∈ lw_tbl := xm_4 (List.mem_of_getElem? (i := 11) rfl)
theorem kw_732 : Cond.instanceMethod y_Mo_findHead ∈ lw_tbl := xm_4 (List.mem_of_getElem? (i := 12) rfl)
theorem kw_733 : Cond.code y_Mo_findHead prog_7_method_7_code 6 none ∈ lw_tbl := xm_4 (List.mem_of_getElem? (i := 13) rfl)
theorem kw_734 : Cond.methodLink "MailPartsModel" 150 y_Mo_colon ∈ lw_tbl := xm_4 (List.mem_of_getElem? (i := 14) rfl)
theorem kw_735 : Cond.privateMethod y_Mo_colon ∈ lw_tbl := xm_4 (List.mem_of_getElem? (i := 15) rfl)
theorem kw_736 : Cond.instanceMethod y_Mo_colon ∈ lw_tbl := xm_4 (List.mem_of_getElem? (i := 16) rfl)
theorem kw_737 : Cond.code y_Mo_colon prog_7_method_6_code 3 (some FieldType.int) ∈ lw_tbl := xm_4 (List.mem_of_getElem? (i := 17) rfl)
theorem kw_738 : Cond.methodLink "MailPartsModel" 146 y_Mo_isName ∈ lw_tbl := xm_4 (List.mem_of_getElem? (i := 18) rfl)
theorem kw_739 : Cond.static y_Mo_isName ∈ lw_tbl := xm_4 (List.mem_of_getElem? (i := 19) rfl)
theorem kw_740 : Cond.code y_Mo_isName prog_7_method_4_code 1 (some FieldType.boolean) ∈ lw_tbl := xm_4 (List.mem_of_getElem? (i := 20) rfl)
theorem kw_741 : Cond.methodLink "MailPartsModel" 135 y_Mo_small ∈ lw_tbl := xm_4 (List.mem_of_getElem? (i := 21) rfl)
theorem kw_742 : Cond.static y_Mo_small ∈ lw_tbl := xm_4 (List.mem_of_getElem? (i := 22) rfl)
theorem kw_743 : Cond.code y_Mo_small prog_7_method_3_code 1 (some FieldType.int) ∈ lw_tbl := xm_4 (List.mem_of_getElem? (i := 23) rfl)
theorem kw_744 : Cond.methodLink "MailPartsModel" 153 y_Mo_isBlank ∈ lw_tbl := xm_4 (List.mem_of_getElem? (i := 24) rfl)
theorem kw_745 : Cond.static y_Mo_isBlank ∈ lw_tbl := xm_4 (List.mem_of_getElem? (i := 25) rfl)
theorem kw_746 : Cond.code y_Mo_isBlank prog_7_method_2_code 1 (some FieldType.boolean) ∈ lw_tbl := xm_4 (List.mem_of_getElem? (i := 26) rfl)
theorem kw_747 : Cond.methodLink "MailPartsModel" 245 y_Mo_isMulti ∈ lw_tbl := xm_4 (List.mem_of_getElem? (i := 27) rfl)
theorem kw_748 : Cond.privateMethod y_Mo_isMulti ∈ lw_tbl := xm_4 (List.mem_of_getElem? (i := 28) rfl)
theorem kw_749 : Cond.instanceMethod y_Mo_isMulti ∈ lw_tbl := xm_4 (List.mem_of_getElem? (i := 29) rfl)
theorem kw_750 : Cond.code y_Mo_isMulti prog_7_method_29_code 3 (some FieldType.boolean) ∈ lw_tbl := xm_4 (List.mem_of_getElem? (i := 30) rfl)
theorem kw_751 : Cond.methodLink "MailPartsModel" 235 y_Mo_type ∈ lw_tbl := xm_4 (List.mem_of_getElem? (i := 31) rfl)
theorem kw_752 : Cond.privateMethod y_Mo_type ∈ lw_tbl := xm_4 (List.mem_of_getElem? (i := 32) rfl)
theorem kw_753 : Cond.instanceMethod y_Mo_type ∈ lw_tbl := xm_4 (List.mem_of_getElem? (i := 33) rfl)
theorem kw_754 : Cond.code y_Mo_type prog_7_method_22_code 3 none ∈ lw_tbl := xm_4 (List.mem_of_getElem? (i := 34) rfl)
theorem kw_755 : Cond.methodLink "MailPartsModel" 200 y_Mo_firstItem ∈ lw_tbl := xm_4 (List.mem_of_getElem? (i := 35) rfl)
theorem kw_756 : Cond.privateMethod y_Mo_firstItem ∈ lw_tbl := xm_4 (List.mem_of_getElem? (i := 36) rfl)
theorem kw_757 : Cond.instanceMethod y_Mo_firstItem ∈ lw_tbl := xm_4 (List.mem_of_getElem? (i := 37) rfl)
theorem kw_758 : Cond.code y_Mo_firstItem prog_7_method_15_code 3 none ∈ lw_tbl := xm_4 (List.mem_of_getElem? (i := 38) rfl)
theorem kw_759 : Cond.methodLink "MailPartsModel" 183 y_Mo_nothing ∈ lw_tbl := xm_4 (List.mem_of_getElem? (i := 39) rfl)
theorem kw_760 : Cond.privateMethod y_Mo_nothing ∈ lw_tbl := xm_4 (List.mem_of_getElem? (i := 40) rfl)
theorem kw_761 : Cond.instanceMethod y_Mo_nothing ∈ lw_tbl := xm_4 (List.mem_of_getElem? (i := 41) rfl)
theorem kw_762 : Cond.code y_Mo_nothing prog_7_method_14_code 1 none ∈ lw_tbl := xm_4 (List.mem_of_getElem? (i := 42) rfl)
theorem kw_763 : Cond.methodLink "MailPartsModel" 186 y_Mo_find ∈ lw_tbl := xm_4 (List.mem_of_getElem? (i := 43) rfl)
theorem kw_764 : Cond.privateMethod y_Mo_find ∈ lw_tbl := xm_4 (List.mem_of_getElem? (i := 44) rfl)
theorem kw_765 : Cond.instanceMethod y_Mo_find ∈ lw_tbl := xm_4 (List.mem_of_getElem? (i := 45) rfl)
theorem kw_766 : Cond.code y_Mo_find prog_7_method_9_code 7 (some FieldType.boolean) ∈ lw_tbl := xm_4 (List.mem_of_getElem? (i := 46) rfl)
theorem kw_767 : Cond.methodLink "MailPartsModel" 159 y_Mo_isWord ∈ lw_tbl := xm_4 (List.mem_of_getElem? (i := 47) rfl)
theorem kw_768 : Cond.static y_Mo_isWord ∈ lw_tbl := xm_4 (List.mem_of_getElem? (i := 48) rfl)
theorem kw_769 : Cond.code y_Mo_isWord prog_7_method_8_code 6 (some FieldType.boolean) ∈ lw_tbl := xm_4 (List.mem_of_getElem? (i := 49) rfl)
theorem kw_770 : Cond.methodLink "MailPartsModel" 190 y_Mo_itemize ∈ lw_tbl := xm_4 (List.mem_of_getElem? (i := 50) rfl)
theorem kw_771 : Cond.privateMethod y_Mo_itemize ∈ lw_tbl := xm_4 (List.mem_of_getElem? (i := 51) rfl)
theorem kw_772 : Cond.instanceMethod y_Mo_itemize ∈ lw_tbl := xm_4 (List.mem_of_getElem? (i := 52) rfl)
theorem kw_773 : Cond.code y_Mo_itemize prog_7_method_12_code 3 none ∈ lw_tbl := xm_4 (List.mem_of_getElem? (i := 53) rfl)
theorem kw_774 : Cond.methodLink "MailPartsModel" 172 y_Mo_over ∈ lw_tbl := xm_4 (List.mem_of_getElem? (i := 54) rfl)
theorem kw_775 : Cond.privateMethod y_Mo_over ∈ lw_tbl := xm_4 (List.mem_of_getElem? (i := 55) rfl)
theorem kw_776 : Cond.instanceMethod y_Mo_over ∈ lw_tbl := xm_4 (List.mem_of_getElem? (i := 56) rfl)
theorem kw_777 : Cond.code y_Mo_over prog_7_method_11_code 4 (some FieldType.int) ∈ lw_tbl := xm_4 (List.mem_of_getElem? (i := 57) rfl)
theorem kw_778 : Cond.methodLink "MailPartsModel" 176 y_Mo_trim ∈ lw_tbl := xm_4 (List.mem_of_getElem? (i := 58) rfl)
theorem kw_779 : Cond.privateMethod y_Mo_trim ∈ lw_tbl := xm_4 (List.mem_of_getElem? (i := 59) rfl)
theorem kw_780 : Cond.instanceMethod y_Mo_trim ∈ lw_tbl := xm_4 (List.mem_of_getElem? (i := 60) rfl)
theorem kw_781 : Cond.code y_Mo_trim prog_7_method_10_code 3 none ∈ lw_tbl := xm_4 (List.mem_of_getElem? (i := 61) rfl)
theorem kw_782 : Cond.methodLink "MailPartsModel" 193 y_Mo_keep ∈ lw_tbl := xm_4 (List.mem_of_getElem? (i := 62) rfl)
theorem kw_783 : Cond.privateMethod y_Mo_keep ∈ lw_tbl := xm_4 (List.mem_of_getElem? (i := 63) rfl)
theorem kw_784 : Cond.instanceMethod y_Mo_keep ∈ lw_tbl := xm_4 (List.mem_of_getElem? (i := 64) rfl)
theorem kw_785 : Cond.code y_Mo_keep prog_7_method_13_code 5 none ∈ lw_tbl := xm_4 (List.mem_of_getElem? (i := 65) rfl)
theorem kw_786 : Cond.methodLink "MailPartsModel" 204 y_Mo_isType ∈ lw_tbl := xm_4 (List.mem_of_getElem? (i := 66) rfl)
theorem kw_787 : Cond.privateMethod y_Mo_isType ∈ lw_tbl := xm_4 (List.mem_of_getElem? (i := 67) rfl)
theorem kw_788 : Cond.instanceMethod y_Mo_isType ∈ lw_tbl := xm_4 (List.mem_of_getElem? (i := 68) rfl)
theorem kw_789 : Cond.code y_Mo_isType prog_7_method_20_code 3 (some FieldType.boolean) ∈ lw_tbl := xm_4 (List.mem_of_getElem? (i := 69) rfl)
theorem kw_790 : Cond.methodLink "MailPartsModel" 208 y_Mo_isGot ∈ lw_tbl := xm_4 (List.mem_of_getElem? (i := 70) rfl)
theorem kw_791 : Cond.privateMethod y_Mo_isGot ∈ lw_tbl := xm_4 (List.mem_of_getElem? (i := 71) rfl)
theorem kw_792 : Cond.instanceMethod y_Mo_isGot ∈ lw_tbl := xm_4 (List.mem_of_getElem? (i := 72) rfl)
theorem kw_793 : Cond.code y_Mo_isGot prog_7_method_18_code 2 (some FieldType.boolean) ∈ lw_tbl := xm_4 (List.mem_of_getElem? (i := 73) rfl)
theorem kw_794 : Cond.methodLink "MailPartsModel" 212 y_Mo_set ∈ lw_tbl := xm_4 (List.mem_of_getElem? (i := 74) rfl)
theorem kw_795 : Cond.privateMethod y_Mo_set ∈ lw_tbl := xm_4 (List.mem_of_getElem? (i := 75) rfl)
theorem kw_796 : Cond.instanceMethod y_Mo_set ∈ lw_tbl := xm_4 (List.mem_of_getElem? (i := 76) rfl)
theorem kw_797 : Cond.code y_Mo_set prog_7_method_21_code 3 none ∈ lw_tbl := xm_4 (List.mem_of_getElem? (i := 77) rfl)
theorem kw_798 : Cond.methodLink "MailPartsModel" 239 y_Mo_begins ∈ lw_tbl := xm_4 (List.mem_of_getElem? (i := 78) rfl)
theorem kw_799 : Cond.privateMethod y_Mo_begins ∈ lw_tbl := xm_4 (List.mem_of_getElem? (i := 79) rfl)
theorem kw_800 : Cond.instanceMethod y_Mo_begins ∈ lw_tbl := xm_4 (List.mem_of_getElem? (i := 80) rfl)
theorem kw_801 : Cond.code y_Mo_begins prog_7_method_19_code 2 (some FieldType.boolean) ∈ lw_tbl := xm_4 (List.mem_of_getElem? (i := 81) rfl)
theorem kw_802 : Cond.methodLink "MailPartsModel" 216 y_Mo_parameterOf ∈ lw_tbl := xm_4 (List.mem_of_getElem? (i := 82) rfl)
theorem kw_803 : Cond.privateMethod y_Mo_parameterOf ∈ lw_tbl := xm_4 (List.mem_of_getElem? (i := 83) rfl)
theorem kw_804 : Cond.instanceMethod y_Mo_parameterOf ∈ lw_tbl := xm_4 (List.mem_of_getElem? (i := 84) rfl)
theorem kw_805 : Cond.code y_Mo_parameterOf prog_7_method_16_code 5 (some FieldType.boolean) ∈ lw_tbl := xm_4 (List.mem_of_getElem? (i := 85) rfl)
theorem kw_806 : Cond.methodLink "MailPartsModel" 197 y_Mo_unquote ∈ lw_tbl := xm_4 (List.mem_of_getElem? (i := 86) rfl)
theorem kw_807 : Cond.privateMethod y_Mo_unquote ∈ lw_tbl := xm_4 (List.mem_of_getElem? (i := 87) rfl)
theorem kw_808 : Cond.instanceMethod y_Mo_unquote ∈ lw_tbl := xm_4 (List.mem_of_getElem? (i := 88) rfl)
theorem kw_809 : Cond.code y_Mo_unquote prog_7_method_17_code 3 none ∈ lw_tbl := xm_4 (List.mem_of_getElem? (i := 89) rfl)
theorem kw_810 : Cond.methodLink "MailPartsModel" 248 y_Mo_findParts ∈ lw_tbl := xm_4 (List.mem_of_getElem? (i := 90) rfl)
theorem kw_811 : Cond.privateMethod y_Mo_findParts ∈ lw_tbl := xm_4 (List.mem_of_getElem? (i := 91) rfl)
theorem kw_812 : Cond.instanceMethod y_Mo_findParts ∈ lw_tbl := xm_4 (List.mem_of_getElem? (i := 92) rfl)
theorem kw_813 : Cond.code y_Mo_findParts prog_7_method_26_code 6 none ∈ lw_tbl := xm_4 (List.mem_of_getElem? (i := 93) rfl)
theorem kw_814 : Cond.methodLink "MailPartsModel" 226 y_Mo_marked ∈ lw_tbl := xm_4 (List.mem_of_getElem? (i := 94) rfl)
theorem kw_815 : Cond.privateMethod y_Mo_marked ∈ lw_tbl := xm_4 (List.mem_of_getElem? (i := 95) rfl)
theorem kw_816 : Cond.instanceMethod y_Mo_marked ∈ lw_tbl := xm_4 (List.mem_of_getElem? (i := 96) rfl)
theorem kw_817 : Cond.code y_Mo_marked prog_7_method_25_code 4 (some FieldType.int) ∈ lw_tbl := xm_4 (List.mem_of_getElem? (i := 97) rfl)
theorem kw_818 : Cond.methodLink "MailPartsModel" 229 y_Mo_add ∈ lw_tbl := xm_4 (List.mem_of_getElem? (i := 98) rfl)
theorem kw_819 : Cond.privateMethod y_Mo_add ∈ lw_tbl := xm_4 (List.mem_of_getElem? (i := 99) rfl)
theorem kw_820 : Cond.instanceMethod y_Mo_add ∈ lw_tbl := xm_4 (List.mem_of_getElem? (i := 100) rfl)
theorem kw_821 : Cond.code y_Mo_add prog_7_method_27_code 3 none ∈ lw_tbl := xm_4 (List.mem_of_getElem? (i := 101) rfl)
theorem kw_822 : Cond.methodLink "MailPartsModel" 255 y_Mo_isEnclosed ∈ lw_tbl := xm_4 (List.mem_of_getElem? (i := 102) rfl)
theorem kw_823 : Cond.privateMethod y_Mo_isEnclosed ∈ lw_tbl := xm_4 (List.mem_of_getElem? (i := 103) rfl)
theorem kw_824 : Cond.instanceMethod y_Mo_isEnclosed ∈ lw_tbl := xm_4 (List.mem_of_getElem? (i := 104) rfl)
theorem kw_825 : Cond.code y_Mo_isEnclosed prog_7_method_30_code 2 (some FieldType.boolean) ∈ lw_tbl := xm_4 (List.mem_of_getElem? (i := 105) rfl)
theorem kw_826 : Cond.methodLink "MailPartsModel" 294 y_Mo_findTexts ∈ lw_tbl := xm_4 (List.mem_of_getElem? (i := 106) rfl)
theorem kw_827 : Cond.privateMethod y_Mo_findTexts ∈ lw_tbl := xm_4 (List.mem_of_getElem? (i := 107) rfl)
theorem kw_828 : Cond.instanceMethod y_Mo_findTexts ∈ lw_tbl := xm_4 (List.mem_of_getElem? (i := 108) rfl)
theorem kw_829 : Cond.code y_Mo_findTexts prog_7_method_34_code 5 none ∈ lw_tbl := xm_4 (List.mem_of_getElem? (i := 109) rfl)
theorem kw_830 : Cond.methodLink "MailPartsModel" 271 y_Mo_isHung ∈ lw_tbl := xm_4 (List.mem_of_getElem? (i := 110) rfl)
theorem kw_831 : Cond.privateMethod y_Mo_isHung ∈ lw_tbl := xm_4 (List.mem_of_getElem? (i := 111) rfl)
theorem kw_832 : Cond.instanceMethod y_Mo_isHung ∈ lw_tbl := xm_4 (List.mem_of_getElem? (i := 112) rfl)
theorem kw_833 : Cond.code y_Mo_isHung prog_7_method_24_code 2 (some FieldType.boolean) ∈ lw_tbl := xm_4 (List.mem_of_getElem? (i := 113) rfl)
theorem kw_834 : Cond.methodLink "MailPartsModel" 274 y_Mo_alternative ∈ lw_tbl := xm_4 (List.mem_of_getElem? (i := 114) rfl)
theorem kw_835 : Cond.privateMethod y_Mo_alternative ∈ lw_tbl := xm_4 (List.mem_of_getElem? (i := 115) rfl)
theorem kw_836 : Cond.instanceMethod y_Mo_alternative ∈ lw_tbl := xm_4 (List.mem_of_getElem? (i := 116) rfl)
theorem kw_837 : Cond.code y_Mo_alternative prog_7_method_33_code 7 (some FieldType.long) ∈ lw_tbl := xm_4 (List.mem_of_getElem? (i := 117) rfl)
theorem kw_838 : Cond.methodLink "MailPartsLaw" 32 y_Mo_entity ∈ lw_tbl := xm_4 (List.mem_of_getElem? (i := 118) rfl)
theorem kw_839 : Cond.instanceMethod y_Mo_entity ∈ lw_tbl := xm_4 (List.mem_of_getElem? (i := 119) rfl)
theorem kw_840 : Cond.selects "MailPartsModel" y_Mo_entity y_Mo_entity ∈ lw_tbl := xm_4 (List.mem_of_getElem? (i := 120) rfl)
theorem kw_841 : Cond.code y_Mo_entity prog_7_method_44_code 4 (some FieldType.int) ∈ lw_tbl := xm_4 (List.mem_of_getElem? (i := 121) rfl)
theorem kw_842 : Cond.methodLink "MailPartsModel" 301 y_Mo_isThere ∈ lw_tbl := xm_4 (List.mem_of_getElem? (i := 122) rfl)
theorem kw_843 : Cond.privateMethod y_Mo_isThere ∈ lw_tbl := xm_4 (List.mem_of_getElem? (i := 123) rfl)
theorem kw_844 : Cond.instanceMethod y_Mo_isThere ∈ lw_tbl := xm_4 (List.mem_of_getElem? (i := 124) rfl)
theorem kw_845 : Cond.code y_Mo_isThere prog_7_method_39_code 2 (some FieldType.boolean) ∈ lw_tbl := xm_4 (List.mem_of_getElem? (i := 125) rfl)
theorem kw_846 : Cond.methodLink "MailPartsModel" 304 y_Mo_place ∈ lw_tbl := xm_4 (List.mem_of_getElem? (i := 126) rfl)
theorem kw_847 : Cond.privateMethod y_Mo_place ∈ lw_tbl := xm_4 (List.mem_of_getElem? (i := 127) rfl)
theorem kw_848 : Cond.instanceMethod y_Mo_place ∈ lw_tbl := xm_4 (List.mem_of_getElem? (i := 128) rfl)
theorem kw_849 : Cond.code y_Mo_place prog_7_method_40_code 2 (some FieldType.int) ∈ lw_tbl := xm_4 (List.mem_of_getElem? (i := 129) rfl)
theorem kw_850 : Cond.methodLink "MailPartsModel" 307 y_Mo_children ∈ lw_tbl := xm_4 (List.mem_of_getElem? (i := 130) rfl)
theorem kw_851 : Cond.privateMethod y_Mo_children ∈ lw_tbl := xm_4 (List.mem_of_getElem? (i := 131) rfl)
theorem kw_852 : Cond.instanceMethod y_Mo_children ∈ lw_tbl := xm_4 (List.mem_of_getElem? (i := 132) rfl)
theorem kw_853 : Cond.code y_Mo_children prog_7_method_41_code 4 (some FieldType.int) ∈ lw_tbl := xm_4 (List.mem_of_getElem? (i := 133) rfl)
theorem kw_854 : Cond.methodLink "MailPartsModel" 310 y_Mo_fields ∈ lw_tbl := xm_4 (List.mem_of_getElem? (i := 134) rfl)
theorem kw_855 : Cond.privateMethod y_Mo_fields ∈ lw_tbl := xm_4 (List.mem_of_getElem? (i := 135) rfl)
theorem kw_856 : Cond.instanceMethod y_Mo_fields ∈ lw_tbl := xm_4 (List.mem_of_getElem? (i := 136) rfl)
theorem kw_857 : Cond.code y_Mo_fields prog_7_method_42_code 6 (some FieldType.int) ∈ lw_tbl := xm_4 (List.mem_of_getElem? (i := 137) rfl)
theorem kw_858 : Cond.methodLink "MailPartsModel" 297 y_Mo_isAlike ∈ lw_tbl := xm_4 (List.mem_of_getElem? (i := 138) rfl)
theorem kw_859 : Cond.privateMethod y_Mo_isAlike ∈ lw_tbl := xm_4 (List.mem_of_getElem? (i := 139) rfl)
theorem kw_860 : Cond.instanceMethod y_Mo_isAlike ∈ lw_tbl := xm_4 (List.mem_of_getElem? (i := 140) rfl)
theorem kw_861 : Cond.code y_Mo_isAlike prog_7_method_43_code 5 (some FieldType.boolean) ∈ lw_tbl := xm_4 (List.mem_of_getElem? (i := 141) rfl)
theorem kw_862 : Cond.methodLink "MailPartsLaw" 36 y_Mo_length ∈ lw_tbl := xm_4 (List.mem_of_getElem? (i := 142) rfl)
theorem kw_863 : Cond.instanceMethod y_Mo_length ∈ lw_tbl := xm_4 (List.mem_of_getElem? (i := 143) rfl)
theorem kw_864 : Cond.selects "MailPartsModel" y_Mo_length y_Mo_length ∈ lw_tbl := xm_4 (List.mem_of_getElem? (i := 144) rfl)
theorem kw_865 : Cond.code y_Mo_length prog_7_method_46_code 3 (some FieldType.int) ∈ lw_tbl := xm_4 (List.mem_of_getElem? (i := 145) rfl)
theorem kw_866 : Cond.methodLink "MailPartsModel" 316 y_Mo_tell ∈ lw_tbl := xm_4 (List.mem_of_getElem? (i := 146) rfl)
theorem kw_867 : Cond.privateMethod y_Mo_tell ∈ lw_tbl := xm_4 (List.mem_of_getElem? (i := 147) rfl)
theorem kw_868 : Cond.instanceMethod y_Mo_tell ∈ lw_tbl := xm_4 (List.mem_of_getElem? (i := 148) rfl)
theorem kw_869 : Cond.code y_Mo_tell prog_7_method_45_code 3 (some FieldType.boolean) ∈ lw_tbl := xm_4 (List.mem_of_getElem? (i := 149) rfl)
theorem kw_870 : Cond.methodLink "MailPartsModel" 313 y_Mo_called ∈ lw_tbl := xm_4 (List.mem_of_getElem? (i := 150) rfl)
theorem kw_871 : Cond.privateMethod y_Mo_called ∈ lw_tbl := xm_4 (List.mem_of_getElem? (i := 151) rfl)
theorem kw_872 : Cond.instanceMethod y_Mo_called ∈ lw_tbl := xm_4 (List.mem_of_getElem? (i := 152) rfl)
theorem kw_873 : Cond.code y_Mo_called prog_7_method_23_code 2 none ∈ lw_tbl := xm_4 (List.mem_of_getElem? (i := 153) rfl)
theorem kw_874 : Cond.methodLink "MailPartsLaw" 41 y_Mo_at ∈ lw_tbl := xm_4 (List.mem_of_getElem? (i := 154) rfl)
theorem kw_875 : Cond.instanceMethod y_Mo_at ∈ lw_tbl := xm_4 (List.mem_of_getElem? (i := 155) rfl)
theorem kw_876 : Cond.selects "MailPartsModel" y_Mo_at y_Mo_at ∈ lw_tbl := xm_4 (List.mem_of_getElem? (i := 156) rfl)
theorem kw_877 : Cond.code y_Mo_at prog_7_method_47_code 4 (some FieldType.int) ∈ lw_tbl := xm_4 (List.mem_of_getElem? (i := 157) rfl)
theorem kw_878 : Cond.methodLink "MailPartsLaw" 45 y_Mo_field ∈ lw_tbl := xm_4 (List.mem_of_getElem? (i := 158) rfl)
theorem kw_879 : Cond.instanceMethod y_Mo_field ∈ lw_tbl := xm_4 (List.mem_of_getElem? (i := 159) rfl)
theorem kw_880 : Cond.selects "MailPartsModel" y_Mo_field y_Mo_field ∈ lw_tbl := xm_4 (List.mem_of_getElem? (i := 160) rfl)
theorem kw_881 : Cond.code y_Mo_field prog_7_method_49_code 4 (some FieldType.int) ∈ lw_tbl := xm_4 (List.mem_of_getElem? (i := 161) rfl)
theorem kw_882 : Cond.methodLink "MailPartsModel" 319 y_Mo_ask ∈ lw_tbl := xm_4 (List.mem_of_getElem? (i := 162) rfl)
theorem kw_883 : Cond.privateMethod y_Mo_ask ∈ lw_tbl := xm_4 (List.mem_of_getElem? (i := 163) rfl)
theorem kw_884 : Cond.instanceMethod y_Mo_ask ∈ lw_tbl := xm_4 (List.mem_of_getElem? (i := 164) rfl)
theorem kw_885 : Cond.code y_Mo_ask prog_7_method_48_code 3 (some FieldType.int) ∈ lw_tbl := xm_4 (List.mem_of_getElem? (i := 165) rfl)
theorem kw_886 : Cond.methodLink "MailPartsLaw" 49 y_Mo_parameter ∈ lw_tbl := xm_4 (List.mem_of_getElem? (i := 166) rfl)
theorem kw_887 : Cond.instanceMethod y_Mo_parameter ∈ lw_tbl := xm_4 (List.mem_of_getElem? (i := 167) rfl)
theorem kw_888 : Cond.selects "MailPartsModel" y_Mo_parameter y_Mo_parameter ∈ lw_tbl := xm_4 (List.mem_of_getElem? (i := 168) rfl)
theorem kw_889 : Cond.code y_Mo_parameter prog_7_method_50_code 4 (some FieldType.int) ∈ lw_tbl := xm_4 (List.mem_of_getElem? (i := 169) rfl)
theorem kw_890 : Cond.methodLink "MailPartsLaw" 53 y_Mo_byteAt ∈ lw_tbl := xm_4 (List.mem_of_getElem? (i := 170) rfl)
theorem kw_891 : Cond.instanceMethod y_Mo_byteAt ∈ lw_tbl := xm_4 (List.mem_of_getElem? (i := 171) rfl)
theorem kw_892 : Cond.selects "MailPartsModel" y_Mo_byteAt y_Mo_byteAt ∈ lw_tbl := xm_4 (List.mem_of_getElem? (i := 172) rfl)
theorem kw_893 : Cond.code y_Mo_byteAt prog_7_method_51_code 2 (some FieldType.int) ∈ lw_tbl := xm_4 (List.mem_of_getElem? (i := 173) rfl)
theorem kw_894 : Cond.methodLink "MailPartsLaw" 58 y_Mo_text ∈ lw_tbl := xm_4 (List.mem_of_getElem? (i := 174) rfl)
theorem kw_895 : Cond.instanceMethod y_Mo_text ∈ lw_tbl := xm_4 (List.mem_of_getElem? (i := 175) rfl)
theorem kw_896 : Cond.selects "MailPartsModel" y_Mo_text y_Mo_text ∈ lw_tbl := xm_4 (List.mem_of_getElem? (i := 176) rfl)
theorem kw_897 : Cond.code y_Mo_text prog_7_method_53_code 5 (some FieldType.int) ∈ lw_tbl := xm_4 (List.mem_of_getElem? (i := 177) rfl)
theorem kw_898 : Cond.methodLink "MailPartsModel" 326 y_Mo_isListed ∈ lw_tbl := xm_4 (List.mem_of_getElem? (i := 178) rfl)
theorem kw_899 : Cond.privateMethod y_Mo_isListed ∈ lw_tbl := xm_4 (List.mem_of_getElem? (i := 179) rfl)
theorem kw_900 : Cond.instanceMethod y_Mo_isListed ∈ lw_tbl := xm_4 (List.mem_of_getElem? (i := 180) rfl)
theorem kw_901 : Cond.code y_Mo_isListed prog_7_method_52_code 3 (some FieldType.boolean) ∈ lw_tbl := xm_4 (List.mem_of_getElem? (i := 181) rfl)
theorem kw_902 : Cond.methodLink "MailPartsModel" 323 y_Mo_isHanging ∈ lw_tbl := xm_4 (List.mem_of_getElem? (i := 182) rfl)
theorem kw_903 : Cond.privateMethod y_Mo_isHanging ∈ lw_tbl := xm_4 (List.mem_of_getElem? (i := 183) rfl)
theorem kw_904 : Cond.instanceMethod y_Mo_isHanging ∈ lw_tbl := xm_4 (List.mem_of_getElem? (i := 184) rfl)
theorem kw_905 : Cond.code y_Mo_isHanging prog_7_method_35_code 2 (some FieldType.boolean) ∈ lw_tbl := xm_4 (List.mem_of_getElem? (i := 185) rfl)
theorem kw_906 : Cond.methodLink "MailPartsLaw" 62 y_Mo_body ∈ lw_tbl := xm_4 (List.mem_of_getElem? (i := 186) rfl)
theorem kw_907 : Cond.instanceMethod y_Mo_body ∈ lw_tbl := xm_4 (List.mem_of_getElem? (i := 187) rfl)
theorem kw_908 : Cond.selects "MailPartsModel" y_Mo_body y_Mo_body ∈ lw_tbl := xm_4 (List.mem_of_getElem? (i := 188) rfl)
theorem kw_909 : Cond.code y_Mo_body prog_7_method_54_code 7 (some FieldType.int) ∈ lw_tbl := xm_4 (List.mem_of_getElem? (i := 189) rfl)
theorem kw_910 : Cond.methodLink "MailPartsModel" 330 y_Mo_put ∈ lw_tbl := xm_4 (List.mem_of_getElem? (i := 190) rfl)
theorem kw_911 : Cond.privateMethod y_Mo_put ∈ lw_tbl := xm_4 (List.mem_of_getElem? (i := 191) rfl)
theorem kw_912 : Cond.instanceMethod y_Mo_put ∈ lw_tbl := xm_4 (List.mem_of_getElem? (i := 192) rfl)
theorem kw_913 : Cond.code y_Mo_put prog_7_method_55_code 3 none ∈ lw_tbl := xm_4 (List.mem_of_getElem? (i := 193) rfl)
theorem kw_914 : Cond.methodLink "MailPartsLaw" 66 y_Mo_count ∈ lw_tbl := xm_4 (List.mem_of_getElem? (i := 194) rfl)
theorem kw_915 : Cond.instanceMethod y_Mo_count ∈ lw_tbl := xm_4 (List.mem_of_getElem? (i := 195) rfl)
theorem kw_916 : Cond.selects "MailPartsModel" y_Mo_count y_Mo_count ∈ lw_tbl := xm_4 (List.mem_of_getElem? (i := 196) rfl)
theorem kw_917 : Cond.code y_Mo_count prog_7_method_56_code 4 (some FieldType.int) ∈ lw_tbl := xm_4 (List.mem_of_getElem? (i := 197) rfl)
theorem kw_918 : Cond.fieldLink "java/lang/String" 9 "java/lang/String" "value" "[B" ∈ lw_tbl := xm_4 (List.mem_of_getElem? (i := 198) rfl)
theorem kw_919 : Cond.fieldLink "java/lang/String" 15 "java/lang/String" "coder" "B" ∈ lw_tbl := xm_4 (List.mem_of_getElem? (i := 199) rfl)
theorem ks_0 : Cond.selects "MailParts" y_Mp_addWord y_Mp_addWord ∈ lw_tbl := xm_s (q := (⟨"MailParts", "addWord", "(I)V"⟩, 16)) (List.mem_append_left _ (List.mem_of_getElem? (i := 0) rfl))
theorem ks_1 : Cond.selects "MailParts$Mail" y_Ma_addLine y_Ma_addLine ∈ lw_tbl := xm_s (q := (⟨"MailParts$Mail", "addLine", "(II)V"⟩, 4)) (List.mem_append_left _ (List.mem_of_getElem? (i := 1) rfl))
theorem ks_2 : Cond.selects "MailParts" y_Mp_openEntity y_Mp_openEntity ∈ lw_tbl := xm_s (q := (⟨"MailParts", "openEntity", "(IIII)V"⟩, 16)) (List.mem_append_left _ (List.mem_of_getElem? (i := 2) rfl))
theorem ks_3 : Cond.selects "MailParts" y_Mp_find y_Mp_find ∈ lw_tbl := xm_s (q := (⟨"MailParts", "find", "(I)LMailParts$Entity;"⟩, 16)) (List.mem_append_left _ (List.mem_of_getElem? (i := 3) rfl))
theorem ks_4 : Cond.selects "MailParts" y_Mp_describe y_Mp_describe ∈ lw_tbl := xm_s (q := (⟨"MailParts", "describe", "(LMailParts$Entity;)V"⟩, 16)) (List.mem_append_left _ (List.mem_of_getElem? (i := 4) rfl))
theorem ks_5 : Cond.selects "MailParts" y_Mp_loadType y_Mp_loadType ∈ lw_tbl := xm_s (q := (⟨"MailParts", "loadType", "(LMailParts$Entity;)V"⟩, 16)) (List.mem_append_left _ (List.mem_of_getElem? (i := 5) rfl))
theorem ks_6 : Cond.selects "MailParts" y_Mp_loadField y_Mp_loadField ∈ lw_tbl := xm_s (q := (⟨"MailParts", "loadField", "(LMailParts$Entity;LMailParts$Row;)Z"⟩, 16)) (List.mem_append_left _ (List.mem_of_getElem? (i := 6) rfl))
theorem ks_7 : Cond.selects "MailParts$Value" y_Va_find y_Va_find ∈ lw_tbl := xm_s (q := (⟨"MailParts$Value", "find", "(III)I"⟩, 1)) (List.mem_append_left _ (List.mem_of_getElem? (i := 7) rfl))
theorem ks_8 : Cond.selects "MailParts$Value" y_Va_keep y_Va_keep ∈ lw_tbl := xm_s (q := (⟨"MailParts$Value", "keep", "(II)V"⟩, 1)) (List.mem_append_left _ (List.mem_of_getElem? (i := 8) rfl))
theorem ks_9 : Cond.selects "MailParts$Value" y_Va_behindBlanks y_Va_behindBlanks ∈ lw_tbl := xm_s (q := (⟨"MailParts$Value", "behindBlanks", "(II)I"⟩, 1)) (List.mem_append_left _ (List.mem_of_getElem? (i := 9) rfl))
theorem ks_10 : Cond.selects "MailParts$Value" y_Va_aheadOfBlanks y_Va_aheadOfBlanks ∈ lw_tbl := xm_s (q := (⟨"MailParts$Value", "aheadOfBlanks", "(II)I"⟩, 1)) (List.mem_append_left _ (List.mem_of_getElem? (i := 10) rfl))
theorem ks_11 : Cond.selects "MailParts" y_Mp_hasBoundary y_Mp_hasBoundary ∈ lw_tbl := xm_s (q := (⟨"MailParts", "hasBoundary", "(LMailParts$Entity;)Z"⟩, 16)) (List.mem_append_left _ (List.mem_of_getElem? (i := 11) rfl))
theorem ks_12 : Cond.selects "MailParts$Value" y_Va_isNamed y_Va_isNamed ∈ lw_tbl := xm_s (q := (⟨"MailParts$Value", "isNamed", "(IILMailParts$Row;)Z"⟩, 1)) (List.mem_append_left _ (List.mem_of_getElem? (i := 12) rfl))
theorem ks_13 : Cond.selects "MailParts$Value" y_Va_unquote y_Va_unquote ∈ lw_tbl := xm_s (q := (⟨"MailParts$Value", "unquote", "()V"⟩, 1)) (List.mem_append_left _ (List.mem_of_getElem? (i := 13) rfl))
theorem ks_14 : Cond.selects "MailParts$Value" y_Va_closing y_Va_closing ∈ lw_tbl := xm_s (q := (⟨"MailParts$Value", "closing", "()I"⟩, 1)) (List.mem_append_left _ (List.mem_of_getElem? (i := 14) rfl))
theorem ks_15 : Cond.selects "MailParts" y_Mp_isOpenCoding y_Mp_isOpenCoding ∈ lw_tbl := xm_s (q := (⟨"MailParts", "isOpenCoding", "(LMailParts$Entity;)Z"⟩, 16)) (List.mem_append_left _ (List.mem_of_getElem? (i := 15) rfl))
theorem ks_16 : Cond.selects "MailParts" y_Mp_openParts y_Mp_openParts ∈ lw_tbl := xm_s (q := (⟨"MailParts", "openParts", "(LMailParts$Entity;II)V"⟩, 16)) (List.mem_append_right _ (List.mem_append_left _ (List.mem_of_getElem? (i := 0) rfl)))
theorem ks_17 : Cond.selects "MailParts$Mail" y_Ma_hasDashes y_Ma_hasDashes ∈ lw_tbl := xm_s (q := (⟨"MailParts$Mail", "hasDashes", "(II)Z"⟩, 4)) (List.mem_append_right _ (List.mem_append_left _ (List.mem_of_getElem? (i := 1) rfl)))
theorem ks_18 : Cond.selects "MailParts" y_Mp_chooseTexts y_Mp_chooseTexts ∈ lw_tbl := xm_s (q := (⟨"MailParts", "chooseTexts", "()V"⟩, 16)) (List.mem_append_right _ (List.mem_append_left _ (List.mem_of_getElem? (i := 2) rfl)))
theorem ks_19 : Cond.selects "MailParts" y_Mp_listLeaves y_Mp_listLeaves ∈ lw_tbl := xm_s (q := (⟨"MailParts", "listLeaves", "()V"⟩, 16)) (List.mem_append_right _ (List.mem_append_left _ (List.mem_of_getElem? (i := 3) rfl)))
theorem ks_20 : Cond.selects "MailParts" y_Mp_countFields y_Mp_countFields ∈ lw_tbl := xm_s (q := (⟨"MailParts", "countFields", "(LMailParts$Entity;)I"⟩, 16)) (List.mem_append_right _ (List.mem_append_left _ (List.mem_of_getElem? (i := 4) rfl)))
theorem ks_21 : Cond.selects "MailParts" y_Mp_loadWord y_Mp_loadWord ∈ lw_tbl := xm_s (q := (⟨"MailParts", "loadWord", "(II)Z"⟩, 16)) (List.mem_append_right _ (List.mem_append_left _ (List.mem_of_getElem? (i := 5) rfl)))
theorem ks_22 : Cond.selects "MailParts" y_Mp_loadName y_Mp_loadName ∈ lw_tbl := xm_s (q := (⟨"MailParts", "loadName", "(LMailParts$Entity;)V"⟩, 16)) (List.mem_append_right _ (List.mem_append_left _ (List.mem_of_getElem? (i := 6) rfl)))
theorem ks_23 : Cond.selects "MailParts" y_Mp_answerOnTape y_Mp_answerOnTape ∈ lw_tbl := xm_s (q := (⟨"MailParts", "answerOnTape", "(Z)I"⟩, 16)) (List.mem_append_right _ (List.mem_append_left _ (List.mem_of_getElem? (i := 7) rfl)))
theorem ks_24 : Cond.selects "MailPartsModel" y_Mo_split y_Mo_split ∈ lw_tbl := xm_s (q := (⟨"MailPartsModel", "split", "()V"⟩, 57)) (List.mem_append_right _ (List.mem_append_left _ (List.mem_of_getElem? (i := 8) rfl)))
theorem ks_25 : Cond.selects "MailPartsModel" y_Mo_build y_Mo_build ∈ lw_tbl := xm_s (q := (⟨"MailPartsModel", "build", "()V"⟩, 57)) (List.mem_append_right _ (List.mem_append_left _ (List.mem_of_getElem? (i := 9) rfl)))
theorem ks_26 : Cond.selects "MailPartsModel" y_Mo_push y_Mo_push ∈ lw_tbl := xm_s (q := (⟨"MailPartsModel", "push", "(III)V"⟩, 57)) (List.mem_append_right _ (List.mem_append_left _ (List.mem_of_getElem? (i := 10) rfl)))
theorem ks_27 : Cond.selects "MailPartsModel" y_Mo_look y_Mo_look ∈ lw_tbl := xm_s (q := (⟨"MailPartsModel", "look", "(I)V"⟩, 57)) (List.mem_append_right _ (List.mem_append_left _ (List.mem_of_getElem? (i := 11) rfl)))
theorem ks_28 : Cond.selects "MailPartsModel" y_Mo_findHead y_Mo_findHead ∈ lw_tbl := xm_s (q := (⟨"MailPartsModel", "findHead", "(I)V"⟩, 57)) (List.mem_append_right _ (List.mem_append_left _ (List.mem_of_getElem? (i := 12) rfl)))
theorem ks_29 : Cond.selects "MailPartsModel" y_Mo_colon y_Mo_colon ∈ lw_tbl := xm_s (q := (⟨"MailPartsModel", "colon", "(I)I"⟩, 57)) (List.mem_append_right _ (List.mem_append_left _ (List.mem_of_getElem? (i := 13) rfl)))
theorem ks_30 : Cond.selects "MailPartsModel" y_Mo_isMulti y_Mo_isMulti ∈ lw_tbl := xm_s (q := (⟨"MailPartsModel", "isMulti", "(I)Z"⟩, 57)) (List.mem_append_right _ (List.mem_append_left _ (List.mem_of_getElem? (i := 14) rfl)))
theorem ks_31 : Cond.selects "MailPartsModel" y_Mo_type y_Mo_type ∈ lw_tbl := xm_s (q := (⟨"MailPartsModel", "type", "(I)V"⟩, 57)) (List.mem_append_right _ (List.mem_append_left _ (List.mem_of_getElem? (i := 15) rfl)))
theorem ks_32 : Cond.selects "MailPartsModel" y_Mo_firstItem y_Mo_firstItem ∈ lw_tbl := xm_s (q := (⟨"MailPartsModel", "firstItem", "(I[I)V"⟩, 57)) (List.mem_append_right _ (List.mem_append_right _ (List.mem_append_left _ (List.mem_of_getElem? (i := 0) rfl))))
theorem ks_33 : Cond.selects "MailPartsModel" y_Mo_nothing y_Mo_nothing ∈ lw_tbl := xm_s (q := (⟨"MailPartsModel", "nothing", "()V"⟩, 57)) (List.mem_append_right _ (List.mem_append_right _ (List.mem_append_left _ (List.mem_of_getElem? (i := 1) rfl))))
theorem ks_34 : Cond.selects "MailPartsModel" y_Mo_find y_Mo_find ∈ lw_tbl := xm_s (q := (⟨"MailPartsModel", "find", "(I[II)Z"⟩, 57)) (List.mem_append_right _ (List.mem_append_right _ (List.mem_append_left _ (List.mem_of_getElem? (i := 2) rfl))))
theorem ks_35 : Cond.selects "MailPartsModel" y_Mo_itemize y_Mo_itemize ∈ lw_tbl := xm_s (q := (⟨"MailPartsModel", "itemize", "()V"⟩, 57)) (List.mem_append_right _ (List.mem_append_right _ (List.mem_append_left _ (List.mem_of_getElem? (i := 3) rfl))))
theorem ks_36 : Cond.selects "MailPartsModel" y_Mo_over y_Mo_over ∈ lw_tbl := xm_s (q := (⟨"MailPartsModel", "over", "(II)I"⟩, 57)) (List.mem_append_right _ (List.mem_append_right _ (List.mem_append_left _ (List.mem_of_getElem? (i := 4) rfl))))
theorem ks_37 : Cond.selects "MailPartsModel" y_Mo_trim y_Mo_trim ∈ lw_tbl := xm_s (q := (⟨"MailPartsModel", "trim", "(II)V"⟩, 57)) (List.mem_append_right _ (List.mem_append_right _ (List.mem_append_left _ (List.mem_of_getElem? (i := 5) rfl))))
theorem ks_38 : Cond.selects "MailPartsModel" y_Mo_keep y_Mo_keep ∈ lw_tbl := xm_s (q := (⟨"MailPartsModel", "keep", "(IIZ)V"⟩, 57)) (List.mem_append_right _ (List.mem_append_right _ (List.mem_append_left _ (List.mem_of_getElem? (i := 6) rfl))))
theorem ks_39 : Cond.selects "MailPartsModel" y_Mo_isType y_Mo_isType ∈ lw_tbl := xm_s (q := (⟨"MailPartsModel", "isType", "()Z"⟩, 57)) (List.mem_append_right _ (List.mem_append_right _ (List.mem_append_left _ (List.mem_of_getElem? (i := 7) rfl))))
theorem ks_40 : Cond.selects "MailPartsModel" y_Mo_isGot y_Mo_isGot ∈ lw_tbl := xm_s (q := (⟨"MailPartsModel", "isGot", "([I)Z"⟩, 57)) (List.mem_append_right _ (List.mem_append_right _ (List.mem_append_left _ (List.mem_of_getElem? (i := 8) rfl))))
theorem ks_41 : Cond.selects "MailPartsModel" y_Mo_set y_Mo_set ∈ lw_tbl := xm_s (q := (⟨"MailPartsModel", "set", "([I)V"⟩, 57)) (List.mem_append_right _ (List.mem_append_right _ (List.mem_append_left _ (List.mem_of_getElem? (i := 9) rfl))))
theorem ks_42 : Cond.selects "MailPartsModel" y_Mo_begins y_Mo_begins ∈ lw_tbl := xm_s (q := (⟨"MailPartsModel", "begins", "([I)Z"⟩, 57)) (List.mem_append_right _ (List.mem_append_right _ (List.mem_append_left _ (List.mem_of_getElem? (i := 10) rfl))))
theorem ks_43 : Cond.selects "MailPartsModel" y_Mo_parameterOf y_Mo_parameterOf ∈ lw_tbl := xm_s (q := (⟨"MailPartsModel", "parameterOf", "([II)Z"⟩, 57)) (List.mem_append_right _ (List.mem_append_right _ (List.mem_append_left _ (List.mem_of_getElem? (i := 11) rfl))))
theorem ks_44 : Cond.selects "MailPartsModel" y_Mo_unquote y_Mo_unquote ∈ lw_tbl := xm_s (q := (⟨"MailPartsModel", "unquote", "()V"⟩, 57)) (List.mem_append_right _ (List.mem_append_right _ (List.mem_append_left _ (List.mem_of_getElem? (i := 12) rfl))))
theorem ks_45 : Cond.selects "MailPartsModel" y_Mo_findParts y_Mo_findParts ∈ lw_tbl := xm_s (q := (⟨"MailPartsModel", "findParts", "(I)V"⟩, 57)) (List.mem_append_right _ (List.mem_append_right _ (List.mem_append_left _ (List.mem_of_getElem? (i := 13) rfl))))
theorem ks_46 : Cond.selects "MailPartsModel" y_Mo_marked y_Mo_marked ∈ lw_tbl := xm_s (q := (⟨"MailPartsModel", "marked", "(I)I"⟩, 57)) (List.mem_append_right _ (List.mem_append_right _ (List.mem_append_left _ (List.mem_of_getElem? (i := 14) rfl))))
theorem ks_47 : Cond.selects "MailPartsModel" y_Mo_add y_Mo_add ∈ lw_tbl := xm_s (q := (⟨"MailPartsModel", "add", "(II)V"⟩, 57)) (List.mem_append_right _ (List.mem_append_right _ (List.mem_append_left _ (List.mem_of_getElem? (i := 15) rfl))))
theorem ks_48 : Cond.selects "MailPartsModel" y_Mo_isEnclosed y_Mo_isEnclosed ∈ lw_tbl := xm_s (q := (⟨"MailPartsModel", "isEnclosed", "(I)Z"⟩, 57)) (List.mem_append_right _ (List.mem_append_right _ (List.mem_append_right _ ((List.mem_of_getElem? (i := 0) rfl)))))
theorem ks_49 : Cond.selects "MailPartsModel" y_Mo_findTexts y_Mo_findTexts ∈ lw_tbl := xm_s (q := (⟨"MailPartsModel", "findTexts", "()V"⟩, 57)) (List.mem_append_right _ (List.mem_append_right _ (List.mem_append_right _ ((List.mem_of_getElem? (i := 1) rfl)))))
theorem ks_50 : Cond.selects "MailPartsModel" y_Mo_isHung y_Mo_isHung ∈ lw_tbl := xm_s (q := (⟨"MailPartsModel", "isHung", "(I)Z"⟩, 57)) (List.mem_append_right _ (List.mem_append_right _ (List.mem_append_right _ ((List.mem_of_getElem? (i := 2) rfl)))))
theorem ks_51 : Cond.selects "MailPartsModel" y_Mo_alternative y_Mo_alternative ∈ lw_tbl := xm_s (q := (⟨"MailPartsModel", "alternative", "(I)J"⟩, 57)) (List.mem_append_right _ (List.mem_append_right _ (List.mem_append_right _ ((List.mem_of_getElem? (i := 3) rfl)))))
theorem ks_52 : Cond.selects "MailPartsModel" y_Mo_isThere y_Mo_isThere ∈ lw_tbl := xm_s (q := (⟨"MailPartsModel", "isThere", "(I)Z"⟩, 57)) (List.mem_append_right _ (List.mem_append_right _ (List.mem_append_right _ ((List.mem_of_getElem? (i := 4) rfl)))))
theorem ks_53 : Cond.selects "MailPartsModel" y_Mo_place y_Mo_place ∈ lw_tbl := xm_s (q := (⟨"MailPartsModel", "place", "(I)I"⟩, 57)) (List.mem_append_right _ (List.mem_append_right _ (List.mem_append_right _ ((List.mem_of_getElem? (i := 5) rfl)))))
theorem ks_54 : Cond.selects "MailPartsModel" y_Mo_children y_Mo_children ∈ lw_tbl := xm_s (q := (⟨"MailPartsModel", "children", "(I)I"⟩, 57)) (List.mem_append_right _ (List.mem_append_right _ (List.mem_append_right _ ((List.mem_of_getElem? (i := 6) rfl)))))
theorem ks_55 : Cond.selects "MailPartsModel" y_Mo_fields y_Mo_fields ∈ lw_tbl := xm_s (q := (⟨"MailPartsModel", "fields", "(I)I"⟩, 57)) (List.mem_append_right _ (List.mem_append_right _ (List.mem_append_right _ ((List.mem_of_getElem? (i := 7) rfl)))))
theorem ks_56 : Cond.selects "MailPartsModel" y_Mo_isAlike y_Mo_isAlike ∈ lw_tbl := xm_s (q := (⟨"MailPartsModel", "isAlike", "(II)Z"⟩, 57)) (List.mem_append_right _ (List.mem_append_right _ (List.mem_append_right _ ((List.mem_of_getElem? (i := 8) rfl)))))
theorem ks_57 : Cond.selects "MailPartsModel" y_Mo_tell y_Mo_tell ∈ lw_tbl := xm_s (q := (⟨"MailPartsModel", "tell", "(II)Z"⟩, 57)) (List.mem_append_right _ (List.mem_append_right _ (List.mem_append_right _ ((List.mem_of_getElem? (i := 9) rfl)))))
theorem ks_58 : Cond.selects "MailPartsModel" y_Mo_called y_Mo_called ∈ lw_tbl := xm_s (q := (⟨"MailPartsModel", "called", "(I)V"⟩, 57)) (List.mem_append_right _ (List.mem_append_right _ (List.mem_append_right _ ((List.mem_of_getElem? (i := 10) rfl)))))
theorem ks_59 : Cond.selects "MailPartsModel" y_Mo_ask y_Mo_ask ∈ lw_tbl := xm_s (q := (⟨"MailPartsModel", "ask", "()I"⟩, 57)) (List.mem_append_right _ (List.mem_append_right _ (List.mem_append_right _ ((List.mem_of_getElem? (i := 11) rfl)))))
theorem ks_60 : Cond.selects "MailPartsModel" y_Mo_isListed y_Mo_isListed ∈ lw_tbl := xm_s (q := (⟨"MailPartsModel", "isListed", "(IZ)Z"⟩, 57)) (List.mem_append_right _ (List.mem_append_right _ (List.mem_append_right _ ((List.mem_of_getElem? (i := 12) rfl)))))
theorem ks_61 : Cond.selects "MailPartsModel" y_Mo_isHanging y_Mo_isHanging ∈ lw_tbl := xm_s (q := (⟨"MailPartsModel", "isHanging", "(I)Z"⟩, 57)) (List.mem_append_right _ (List.mem_append_right _ (List.mem_append_right _ ((List.mem_of_getElem? (i := 13) rfl)))))
theorem ks_62 : Cond.selects "MailPartsModel" y_Mo_put y_Mo_put ∈ lw_tbl := xm_s (q := (⟨"MailPartsModel", "put", "(II)V"⟩, 57)) (List.mem_append_right _ (List.mem_append_right _ (List.mem_append_right _ ((List.mem_of_getElem? (i := 14) rfl)))))
theorem i_En : ∀ w ∈ u_ws "MailParts$Entity" T_En 17, w ∈ lw_tbl ∧ w.onTables = true ∧ w.keepsH = true := by decide +kernel
theorem i_Ma : ∀ w ∈ u_ws "MailParts$Mail" T_Ma 4, w ∈ lw_tbl ∧ w.onTables = true ∧ w.keepsH = true := by decide +kernel
theorem i_Ro : ∀ w ∈ u_ws "MailParts$Row" T_Ro 2, w ∈ lw_tbl ∧ w.onTables = true ∧ w.keepsH = true := by decide +kernel
theorem i_Va : ∀ w ∈ u_ws "MailParts$Value" T_Va 1, w ∈ lw_tbl ∧ w.onTables = true ∧ w.keepsH = true := by decide +kernel
theorem i_Mp : ∀ w ∈ u_ws "MailParts" T_Mp 16, w ∈ lw_tbl ∧ w.onTables = true ∧ w.keepsH = true := by decide +kernel
theorem i_Mo : ∀ w ∈ u_ws "MailPartsModel" T_Mo 57, w ∈ lw_tbl ∧ w.onTables = true ∧ w.keepsH = true := by decide +kernel
end
section
theorem d_Mp_init_0 : decode b_Mp_init 0 = .ok (.aload_n 0, 1) := by decide +kernel
theorem d_Mp_init_1 : decode b_Mp_init 1 = .ok (.invokespecial 1, 3) := by decide +kernel
theorem d_Mp_init_4 : decode b_Mp_init 4 = .ok (.aload_n 0, 1) := by decide +kernel
theorem d_Mp_init_5 : decode b_Mp_init 5 = .ok (.new 7, 3) := by decide +kernel
theorem d_Mp_init_8 : decode b_Mp_init 8 = .ok (.dup, 1) := by decide +kernel
theorem d_Mp_init_9 : decode b_Mp_init 9 = .ok (.bipush 20, 2) := by decide +kernel
theorem d_Mp_init_11 : decode b_Mp_init 11 = .ok (.invokespecial 11, 3) := by decide +kernel
theorem d_Mp_init_14 : decode b_Mp_init 14 = .ok (.putfield 14, 3) := by decide +kernel
theorem d_Mp_init_17 : decode b_Mp_init 17 = .ok (.aload_n 0, 1) := by decide +kernel
theorem d_Mp_init_18 : decode b_Mp_init 18 = .ok (.new 7, 3) := by decide +kernel
theorem d_Mp_init_21 : decode b_Mp_init 21 = .ok (.dup, 1) := by decide +kernel
theorem d_Mp_init_22 : decode b_Mp_init 22 = .ok (.sipush 1500, 3) := by decide +kernel
theorem d_Mp_init_25 : decode b_Mp_init 25 = .ok (.invokespecial 11, 3) := by decide +kernel
theorem d_Mp_init_28 : decode b_Mp_init 28 = .ok (.putfield 18, 3) := by decide +kernel
theorem d_Mp_init_31 : decode b_Mp_init 31 = .ok (.aload_n 0, 1) := by decide +kernel
theorem d_Mp_init_32 : decode b_Mp_init 32 = .ok (.new 21, 3) := by decide +kernel
theorem d_Mp_init_35 : decode b_Mp_init 35 = .ok (.dup, 1) := by decide +kernel
theorem d_Mp_init_36 : decode b_Mp_init 36 = .ok (.invokespecial 23, 3) := by decide +kernel
theorem d_Mp_init_39 : decode b_Mp_init 39 = .ok (.putfield 24, 3) := by decide +kernel
theorem d_Mp_init_42 : decode b_Mp_init 42 = .ok (.aload_n 0, 1) := by decide +kernel
theorem d_Mp_init_43 : decode b_Mp_init 43 = .ok (.new 28, 3) := by decide +kernel
theorem d_Mp_init_46 : decode b_Mp_init 46 = .ok (.dup, 1) := by decide +kernel
theorem d_Mp_init_47 : decode b_Mp_init 47 = .ok (.invokespecial 30, 3) := by decide +kernel
theorem d_Mp_init_50 : decode b_Mp_init 50 = .ok (.putfield 31, 3) := by decide +kernel
theorem d_Mp_init_53 : decode b_Mp_init 53 = .ok (.aload_n 0, 1) := by decide +kernel
theorem d_Mp_init_54 : decode b_Mp_init 54 = .ok (.ldc 35, 2) := by decide +kernel
theorem d_Mp_init_56 : decode b_Mp_init 56 = .ok (.invokestatic 37, 3) := by decide +kernel
theorem d_Mp_init_59 : decode b_Mp_init 59 = .ok (.putfield 41, 3) := by decide +kernel
theorem d_Mp_init_62 : decode b_Mp_init 62 = .ok (.aload_n 0, 1) := by decide +kernel
theorem d_Mp_init_63 : decode b_Mp_init 63 = .ok (.ldc 44, 2) := by decide +kernel
theorem d_Mp_init_65 : decode b_Mp_init 65 = .ok (.invokestatic 37, 3) := by decide +kernel
theorem d_Mp_init_68 : decode b_Mp_init 68 = .ok (.putfield 46, 3) := by decide +kernel
theorem d_Mp_init_71 : decode b_Mp_init 71 = .ok (.aload_n 0, 1) := by decide +kernel
theorem d_Mp_init_72 : decode b_Mp_init 72 = .ok (.ldc 49, 2) := by decide +kernel
theorem d_Mp_init_74 : decode b_Mp_init 74 = .ok (.invokestatic 37, 3) := by decide +kernel
theorem d_Mp_init_77 : decode b_Mp_init 77 = .ok (.putfield 51, 3) := by decide +kernel
theorem d_Mp_init_80 : decode b_Mp_init 80 = .ok (.aload_n 0, 1) := by decide +kernel
theorem d_Mp_init_81 : decode b_Mp_init 81 = .ok (.ldc 54, 2) := by decide +kernel
theorem d_Mp_init_83 : decode b_Mp_init 83 = .ok (.invokestatic 37, 3) := by decide +kernel
theorem d_Mp_init_86 : decode b_Mp_init 86 = .ok (.putfield 56, 3) := by decide +kernel
theorem d_Mp_init_89 : decode b_Mp_init 89 = .ok (.aload_n 0, 1) := by decide +kernel
theorem d_Mp_init_90 : decode b_Mp_init 90 = .ok (.ldc 59, 2) := by decide +kernel
theorem d_Mp_init_92 : decode b_Mp_init 92 = .ok (.invokestatic 37, 3) := by decide +kernel
theorem d_Mp_init_95 : decode b_Mp_init 95 = .ok (.putfield 61, 3) := by decide +kernel
theorem d_Mp_init_98 : decode b_Mp_init 98 = .ok (.aload_n 0, 1) := by decide +kernel
theorem d_Mp_init_99 : decode b_Mp_init 99 = .ok (.ldc 64, 2) := by decide +kernel
theorem d_Mp_init_101 : decode b_Mp_init 101 = .ok (.invokestatic 37, 3) := by decide +kernel
theorem d_Mp_init_104 : decode b_Mp_init 104 = .ok (.putfield 66, 3) := by decide +kernel
theorem d_Mp_init_107 : decode b_Mp_init 107 = .ok (.aload_n 0, 1) := by decide +kernel
theorem d_Mp_init_108 : decode b_Mp_init 108 = .ok (.bipush 60, 2) := by decide +kernel
theorem d_Mp_init_110 : decode b_Mp_init 110 = .ok (.anewarray 69, 3) := by decide +kernel
theorem d_Mp_init_113 : decode b_Mp_init 113 = .ok (.putfield 71, 3) := by decide +kernel
theorem d_Mp_init_116 : decode b_Mp_init 116 = .ok (.iconst 0, 1) := by decide +kernel
theorem d_Mp_init_117 : decode b_Mp_init 117 = .ok (.istore_n 1, 1) := by decide +kernel
theorem d_Mp_init_118 : decode b_Mp_init 118 = .ok (.iload_n 1, 1) := by decide +kernel
theorem d_Mp_init_119 : decode b_Mp_init 119 = .ok (.bipush 60, 2) := by decide +kernel
theorem d_Mp_init_121 : decode b_Mp_init 121 = .ok (.if_icmp .ge 22, 3) := by decide +kernel
theorem d_Mp_init_124 : decode b_Mp_init 124 = .ok (.aload_n 0, 1) := by decide +kernel
theorem d_Mp_init_125 : decode b_Mp_init 125 = .ok (.getfield 71, 3) := by decide +kernel
theorem d_Mp_init_128 : decode b_Mp_init 128 = .ok (.iload_n 1, 1) := by decide +kernel
theorem d_Mp_init_129 : decode b_Mp_init 129 = .ok (.new 69, 3) := by decide +kernel
theorem d_Mp_init_132 : decode b_Mp_init 132 = .ok (.dup, 1) := by decide +kernel
theorem d_Mp_init_133 : decode b_Mp_init 133 = .ok (.invokespecial 75, 3) := by decide +kernel
theorem d_Mp_init_136 : decode b_Mp_init 136 = .ok (.aastore, 1) := by decide +kernel
theorem d_Mp_init_137 : decode b_Mp_init 137 = .ok (.iinc 1 1, 3) := by decide +kernel
theorem d_Mp_init_140 : decode b_Mp_init 140 = .ok (.goto (-22), 3) := by decide +kernel
theorem d_Mp_init_143 : decode b_Mp_init 143 = .ok (.aload_n 0, 1) := by decide +kernel
theorem d_Mp_init_144 : decode b_Mp_init 144 = .ok (.bipush 8, 2) := by decide +kernel
theorem d_Mp_init_146 : decode b_Mp_init 146 = .ok (.anewarray 7, 3) := by decide +kernel
theorem d_Mp_init_149 : decode b_Mp_init 149 = .ok (.putfield 76, 3) := by decide +kernel
theorem d_Mp_init_152 : decode b_Mp_init 152 = .ok (.iconst 0, 1) := by decide +kernel
theorem d_Mp_init_153 : decode b_Mp_init 153 = .ok (.istore_n 1, 1) := by decide +kernel
theorem d_Mp_init_154 : decode b_Mp_init 154 = .ok (.iload_n 1, 1) := by decide +kernel
theorem d_Mp_init_155 : decode b_Mp_init 155 = .ok (.bipush 8, 2) := by decide +kernel
theorem d_Mp_init_157 : decode b_Mp_init 157 = .ok (.if_icmp .ge 24, 3) := by decide +kernel
theorem d_Mp_init_160 : decode b_Mp_init 160 = .ok (.aload_n 0, 1) := by decide +kernel
theorem d_Mp_init_161 : decode b_Mp_init 161 = .ok (.getfield 76, 3) := by decide +kernel
theorem d_Mp_init_164 : decode b_Mp_init 164 = .ok (.iload_n 1, 1) := by decide +kernel
theorem d_Mp_init_165 : decode b_Mp_init 165 = .ok (.new 7, 3) := by decide +kernel
theorem d_Mp_init_168 : decode b_Mp_init 168 = .ok (.dup, 1) := by decide +kernel
theorem d_Mp_init_169 : decode b_Mp_init 169 = .ok (.bipush 70, 2) := by decide +kernel
theorem d_Mp_init_171 : decode b_Mp_init 171 = .ok (.invokespecial 11, 3) := by decide +kernel
theorem d_Mp_init_174 : decode b_Mp_init 174 = .ok (.aastore, 1) := by decide +kernel
theorem d_Mp_init_175 : decode b_Mp_init 175 = .ok (.iinc 1 1, 3) := by decide +kernel
theorem d_Mp_init_178 : decode b_Mp_init 178 = .ok (.goto (-24), 3) := by decide +kernel
theorem d_Mp_init_181 : decode b_Mp_init 181 = .ok (.aload_n 0, 1) := by decide +kernel
theorem d_Mp_init_182 : decode b_Mp_init 182 = .ok (.new 7, 3) := by decide +kernel
theorem d_Mp_init_185 : decode b_Mp_init 185 = .ok (.dup, 1) := by decide +kernel
theorem d_Mp_init_186 : decode b_Mp_init 186 = .ok (.bipush 60, 2) := by decide +kernel
theorem d_Mp_init_188 : decode b_Mp_init 188 = .ok (.invokespecial 11, 3) := by decide +kernel
theorem d_Mp_init_191 : decode b_Mp_init 191 = .ok (.putfield 80, 3) := by decide +kernel
theorem d_Mp_init_194 : decode b_Mp_init 194 = .ok (.aload_n 0, 1) := by decide +kernel
theorem d_Mp_init_195 : decode b_Mp_init 195 = .ok (.new 7, 3) := by decide +kernel
theorem d_Mp_init_198 : decode b_Mp_init 198 = .ok (.dup, 1) := by decide +kernel
theorem d_Mp_init_199 : decode b_Mp_init 199 = .ok (.bipush 60, 2) := by decide +kernel
theorem d_Mp_init_201 : decode b_Mp_init 201 = .ok (.invokespecial 11, 3) := by decide +kernel
theorem d_Mp_init_204 : decode b_Mp_init 204 = .ok (.putfield 83, 3) := by decide +kernel
theorem d_Mp_init_207 : decode b_Mp_init 207 = .ok (.aload_n 0, 1) := by decide +kernel
theorem d_Mp_init_208 : decode b_Mp_init 208 = .ok (.iconst 0, 1) := by decide +kernel
theorem d_Mp_init_209 : decode b_Mp_init 209 = .ok (.putfield 86, 3) := by decide +kernel
theorem d_Mp_init_212 : decode b_Mp_init 212 = .ok (.aload_n 0, 1) := by decide +kernel
theorem d_Mp_init_213 : decode b_Mp_init 213 = .ok (.iconst 0, 1) := by decide +kernel
theorem d_Mp_init_214 : decode b_Mp_init 214 = .ok (.putfield 90, 3) := by decide +kernel
theorem d_Mp_init_217 : decode b_Mp_init 217 = .ok (.return_, 1) := by decide +kernel
theorem d_Mp_feed_0 : decode b_Mp_feed 0 = .ok (.aload_n 0, 1) := by decide +kernel
theorem d_Mp_feed_1 : decode b_Mp_feed 1 = .ok (.getfield 14, 3) := by decide +kernel
theorem d_Mp_feed_4 : decode b_Mp_feed 4 = .ok (.invokevirtual 93, 3) := by decide +kernel
theorem d_Mp_feed_7 : decode b_Mp_feed 7 = .ok (.aload_n 0, 1) := by decide +kernel
theorem d_Mp_feed_8 : decode b_Mp_feed 8 = .ok (.iload_n 1, 1) := by decide +kernel
theorem d_Mp_feed_9 : decode b_Mp_feed 9 = .ok (.invokevirtual 96, 3) := by decide +kernel
theorem d_Mp_feed_12 : decode b_Mp_feed 12 = .ok (.aload_n 0, 1) := by decide +kernel
theorem d_Mp_feed_13 : decode b_Mp_feed 13 = .ok (.iload_n 2, 1) := by decide +kernel
theorem d_Mp_feed_14 : decode b_Mp_feed 14 = .ok (.invokevirtual 96, 3) := by decide +kernel
theorem d_Mp_feed_17 : decode b_Mp_feed 17 = .ok (.aload_n 0, 1) := by decide +kernel
theorem d_Mp_feed_18 : decode b_Mp_feed 18 = .ok (.iload_n 3, 1) := by decide +kernel
theorem d_Mp_feed_19 : decode b_Mp_feed 19 = .ok (.invokevirtual 96, 3) := by decide +kernel
theorem d_Mp_feed_22 : decode b_Mp_feed 22 = .ok (.aload_n 0, 1) := by decide +kernel
theorem d_Mp_feed_23 : decode b_Mp_feed 23 = .ok (.iload 4, 2) := by decide +kernel
theorem d_Mp_feed_25 : decode b_Mp_feed 25 = .ok (.invokevirtual 96, 3) := by decide +kernel
theorem d_Mp_feed_28 : decode b_Mp_feed 28 = .ok (.aload_n 0, 1) := by decide +kernel
theorem d_Mp_feed_29 : decode b_Mp_feed 29 = .ok (.iload 5, 2) := by decide +kernel
theorem d_Mp_feed_31 : decode b_Mp_feed 31 = .ok (.invokevirtual 96, 3) := by decide +kernel
theorem d_Mp_feed_34 : decode b_Mp_feed 34 = .ok (.return_, 1) := by decide +kernel
theorem d_Mp_end_0 : decode b_Mp_end 0 = .ok (.iload_n 1, 1) := by decide +kernel
theorem d_Mp_end_1 : decode b_Mp_end 1 = .ok (.ifCond .lt 24, 3) := by decide +kernel
theorem d_Mp_end_4 : decode b_Mp_end 4 = .ok (.iload_n 1, 1) := by decide +kernel
theorem d_Mp_end_5 : decode b_Mp_end 5 = .ok (.bipush 20, 2) := by decide +kernel
theorem d_Mp_end_7 : decode b_Mp_end 7 = .ok (.if_icmp .gt 18, 3) := by decide +kernel
theorem d_Mp_end_10 : decode b_Mp_end 10 = .ok (.aload_n 0, 1) := by decide +kernel
theorem d_Mp_end_11 : decode b_Mp_end 11 = .ok (.getfield 18, 3) := by decide +kernel
theorem d_Mp_end_14 : decode b_Mp_end 14 = .ok (.getfield 99, 3) := by decide +kernel
theorem d_Mp_end_17 : decode b_Mp_end 17 = .ok (.iload_n 1, 1) := by decide +kernel
theorem d_Mp_end_18 : decode b_Mp_end 18 = .ok (.iadd, 1) := by decide +kernel
theorem d_Mp_end_19 : decode b_Mp_end 19 = .ok (.sipush 1500, 3) := by decide +kernel
theorem d_Mp_end_22 : decode b_Mp_end 22 = .ok (.if_icmp .le 5, 3) := by decide +kernel
theorem d_Mp_end_25 : decode b_Mp_end 25 = .ok (.iconst (-1), 1) := by decide +kernel
theorem d_Mp_end_26 : decode b_Mp_end 26 = .ok (.ireturn, 1) := by decide +kernel
theorem d_Mp_end_27 : decode b_Mp_end 27 = .ok (.iconst 0, 1) := by decide +kernel
theorem d_Mp_end_28 : decode b_Mp_end 28 = .ok (.istore_n 2, 1) := by decide +kernel
theorem d_Mp_end_29 : decode b_Mp_end 29 = .ok (.iload_n 2, 1) := by decide +kernel
theorem d_Mp_end_30 : decode b_Mp_end 30 = .ok (.iload_n 1, 1) := by decide +kernel
theorem d_Mp_end_31 : decode b_Mp_end 31 = .ok (.if_icmp .ge 28, 3) := by decide +kernel
theorem d_Mp_end_34 : decode b_Mp_end 34 = .ok (.aload_n 0, 1) := by decide +kernel
theorem d_Mp_end_35 : decode b_Mp_end 35 = .ok (.getfield 18, 3) := by decide +kernel
theorem d_Mp_end_38 : decode b_Mp_end 38 = .ok (.aload_n 0, 1) := by decide +kernel
theorem d_Mp_end_39 : decode b_Mp_end 39 = .ok (.getfield 14, 3) := by decide +kernel
theorem d_Mp_end_42 : decode b_Mp_end 42 = .ok (.iload_n 2, 1) := by decide +kernel
theorem d_Mp_end_43 : decode b_Mp_end 43 = .ok (.invokevirtual 102, 3) := by decide +kernel
theorem d_Mp_end_46 : decode b_Mp_end 46 = .ok (.iconst 0, 1) := by decide +kernel
theorem d_Mp_end_47 : decode b_Mp_end 47 = .ok (.invokestatic 106, 3) := by decide +kernel
theorem d_Mp_end_50 : decode b_Mp_end 50 = .ok (.invokevirtual 112, 3) := by decide +kernel
theorem d_Mp_end_53 : decode b_Mp_end 53 = .ok (.iinc 2 1, 3) := by decide +kernel
theorem d_Mp_end_56 : decode b_Mp_end 56 = .ok (.goto (-27), 3) := by decide +kernel
theorem d_Mp_end_59 : decode b_Mp_end 59 = .ok (.aload_n 0, 1) := by decide +kernel
theorem d_Mp_end_60 : decode b_Mp_end 60 = .ok (.getfield 14, 3) := by decide +kernel
theorem d_Mp_end_63 : decode b_Mp_end 63 = .ok (.invokevirtual 93, 3) := by decide +kernel
theorem d_Mp_end_66 : decode b_Mp_end 66 = .ok (.aload_n 0, 1) := by decide +kernel
theorem d_Mp_end_67 : decode b_Mp_end 67 = .ok (.getfield 18, 3) := by decide +kernel
theorem d_Mp_end_70 : decode b_Mp_end 70 = .ok (.getfield 99, 3) := by decide +kernel
theorem d_Mp_end_73 : decode b_Mp_end 73 = .ok (.ireturn, 1) := by decide +kernel
theorem d_Mp_read_0 : decode b_Mp_read 0 = .ok (.aload_n 0, 1) := by decide +kernel
theorem d_Mp_read_1 : decode b_Mp_read 1 = .ok (.getfield 24, 3) := by decide +kernel
theorem d_Mp_read_4 : decode b_Mp_read 4 = .ok (.aload_n 0, 1) := by decide +kernel
theorem d_Mp_read_5 : decode b_Mp_read 5 = .ok (.getfield 18, 3) := by decide +kernel
theorem d_Mp_read_8 : decode b_Mp_read 8 = .ok (.invokevirtual 115, 3) := by decide +kernel
theorem d_Mp_read_11 : decode b_Mp_read 11 = .ok (.aload_n 0, 1) := by decide +kernel
theorem d_Mp_read_12 : decode b_Mp_read 12 = .ok (.getfield 18, 3) := by decide +kernel
theorem d_Mp_read_15 : decode b_Mp_read 15 = .ok (.invokevirtual 93, 3) := by decide +kernel
theorem d_Mp_read_18 : decode b_Mp_read 18 = .ok (.aload_n 0, 1) := by decide +kernel
theorem d_Mp_read_19 : decode b_Mp_read 19 = .ok (.iconst 0, 1) := by decide +kernel
theorem d_Mp_read_20 : decode b_Mp_read 20 = .ok (.putfield 86, 3) := by decide +kernel
theorem d_Mp_read_23 : decode b_Mp_read 23 = .ok (.aload_n 0, 1) := by decide +kernel
theorem d_Mp_read_24 : decode b_Mp_read 24 = .ok (.iconst 0, 1) := by decide +kernel
theorem d_Mp_read_25 : decode b_Mp_read 25 = .ok (.putfield 90, 3) := by decide +kernel
theorem d_Mp_read_28 : decode b_Mp_read 28 = .ok (.aload_n 0, 1) := by decide +kernel
theorem d_Mp_read_29 : decode b_Mp_read 29 = .ok (.iconst 0, 1) := by decide +kernel
theorem d_Mp_read_30 : decode b_Mp_read 30 = .ok (.aload_n 0, 1) := by decide +kernel
theorem d_Mp_read_31 : decode b_Mp_read 31 = .ok (.getfield 24, 3) := by decide +kernel
theorem d_Mp_read_34 : decode b_Mp_read 34 = .ok (.getfield 119, 3) := by decide +kernel
theorem d_Mp_read_37 : decode b_Mp_read 37 = .ok (.iconst (-1), 1) := by decide +kernel
theorem d_Mp_read_38 : decode b_Mp_read 38 = .ok (.iconst 0, 1) := by decide +kernel
theorem d_Mp_read_39 : decode b_Mp_read 39 = .ok (.invokevirtual 122, 3) := by decide +kernel
theorem d_Mp_read_42 : decode b_Mp_read 42 = .ok (.aload_n 0, 1) := by decide +kernel
theorem d_Mp_read_43 : decode b_Mp_read 43 = .ok (.invokevirtual 126, 3) := by decide +kernel
theorem d_Mp_read_46 : decode b_Mp_read 46 = .ok (.aload_n 0, 1) := by decide +kernel
theorem d_Mp_read_47 : decode b_Mp_read 47 = .ok (.invokevirtual 129, 3) := by decide +kernel
theorem d_Mp_read_50 : decode b_Mp_read 50 = .ok (.aload_n 0, 1) := by decide +kernel
theorem d_Mp_read_51 : decode b_Mp_read 51 = .ok (.getfield 86, 3) := by decide +kernel
theorem d_Mp_read_54 : decode b_Mp_read 54 = .ok (.ireturn, 1) := by decide +kernel
theorem d_Mp_entity_0 : decode b_Mp_entity 0 = .ok (.aload_n 0, 1) := by decide +kernel
theorem d_Mp_entity_1 : decode b_Mp_entity 1 = .ok (.iload_n 1, 1) := by decide +kernel
theorem d_Mp_entity_2 : decode b_Mp_entity 2 = .ok (.invokevirtual 132, 3) := by decide +kernel
theorem d_Mp_entity_5 : decode b_Mp_entity 5 = .ok (.astore_n 3, 1) := by decide +kernel
theorem d_Mp_entity_6 : decode b_Mp_entity 6 = .ok (.aload_n 3, 1) := by decide +kernel
theorem d_Mp_entity_7 : decode b_Mp_entity 7 = .ok (.ifnonnull 5, 3) := by decide +kernel
theorem d_Mp_entity_10 : decode b_Mp_entity 10 = .ok (.iconst (-1), 1) := by decide +kernel
theorem d_Mp_entity_11 : decode b_Mp_entity 11 = .ok (.ireturn, 1) := by decide +kernel
theorem d_Mp_entity_12 : decode b_Mp_entity 12 = .ok (.iload_n 2, 1) := by decide +kernel
theorem d_Mp_entity_13 : decode b_Mp_entity 13 = .ok (.tableswitch 162 0 9 #[55, 60, 65, 70, 83, 95, 131, 141, 151, 156], 55) := by decide +kernel
theorem d_Mp_entity_68 : decode b_Mp_entity 68 = .ok (.aload_n 3, 1) := by decide +kernel
theorem d_Mp_entity_69 : decode b_Mp_entity 69 = .ok (.getfield 136, 3) := by decide +kernel
theorem d_Mp_entity_72 : decode b_Mp_entity 72 = .ok (.ireturn, 1) := by decide +kernel
theorem d_Mp_entity_73 : decode b_Mp_entity 73 = .ok (.aload_n 3, 1) := by decide +kernel
theorem d_Mp_entity_74 : decode b_Mp_entity 74 = .ok (.getfield 139, 3) := by decide +kernel
theorem d_Mp_entity_77 : decode b_Mp_entity 77 = .ok (.ireturn, 1) := by decide +kernel
theorem d_Mp_entity_78 : decode b_Mp_entity 78 = .ok (.aload_n 3, 1) := by decide +kernel
theorem d_Mp_entity_79 : decode b_Mp_entity 79 = .ok (.getfield 142, 3) := by decide +kernel
theorem d_Mp_entity_82 : decode b_Mp_entity 82 = .ok (.ireturn, 1) := by decide +kernel
theorem d_Mp_entity_83 : decode b_Mp_entity 83 = .ok (.aload_n 3, 1) := by decide +kernel
theorem d_Mp_entity_84 : decode b_Mp_entity 84 = .ok (.getfield 145, 3) := by decide +kernel
theorem d_Mp_entity_87 : decode b_Mp_entity 87 = .ok (.ifCond .eq 7, 3) := by decide +kernel
theorem d_Mp_entity_90 : decode b_Mp_entity 90 = .ok (.iconst 1, 1) := by decide +kernel
theorem d_Mp_entity_91 : decode b_Mp_entity 91 = .ok (.goto 4, 3) := by decide +kernel
theorem d_Mp_entity_94 : decode b_Mp_entity 94 = .ok (.iconst 0, 1) := by decide +kernel
theorem d_Mp_entity_95 : decode b_Mp_entity 95 = .ok (.ireturn, 1) := by decide +kernel
theorem d_Mp_entity_96 : decode b_Mp_entity 96 = .ok (.aload_n 0, 1) := by decide +kernel
theorem d_Mp_entity_97 : decode b_Mp_entity 97 = .ok (.getfield 24, 3) := by decide +kernel
theorem d_Mp_entity_100 : decode b_Mp_entity 100 = .ok (.aload_n 3, 1) := by decide +kernel
theorem d_Mp_entity_101 : decode b_Mp_entity 101 = .ok (.getfield 149, 3) := by decide +kernel
theorem d_Mp_entity_104 : decode b_Mp_entity 104 = .ok (.invokevirtual 152, 3) := by decide +kernel
theorem d_Mp_entity_107 : decode b_Mp_entity 107 = .ok (.ireturn, 1) := by decide +kernel
theorem d_Mp_entity_108 : decode b_Mp_entity 108 = .ok (.aload_n 3, 1) := by decide +kernel
theorem d_Mp_entity_109 : decode b_Mp_entity 109 = .ok (.getfield 155, 3) := by decide +kernel
theorem d_Mp_entity_112 : decode b_Mp_entity 112 = .ok (.aload_n 3, 1) := by decide +kernel
theorem d_Mp_entity_113 : decode b_Mp_entity 113 = .ok (.getfield 158, 3) := by decide +kernel
theorem d_Mp_entity_116 : decode b_Mp_entity 116 = .ok (.if_icmp .ge 17, 3) := by decide +kernel
theorem d_Mp_entity_119 : decode b_Mp_entity 119 = .ok (.aload_n 0, 1) := by decide +kernel
theorem d_Mp_entity_120 : decode b_Mp_entity 120 = .ok (.getfield 24, 3) := by decide +kernel
theorem d_Mp_entity_123 : decode b_Mp_entity 123 = .ok (.aload_n 3, 1) := by decide +kernel
theorem d_Mp_entity_124 : decode b_Mp_entity 124 = .ok (.getfield 155, 3) := by decide +kernel
theorem d_Mp_entity_127 : decode b_Mp_entity 127 = .ok (.invokevirtual 152, 3) := by decide +kernel
theorem d_Mp_entity_130 : decode b_Mp_entity 130 = .ok (.goto 13, 3) := by decide +kernel
theorem d_Mp_entity_133 : decode b_Mp_entity 133 = .ok (.aload_n 0, 1) := by decide +kernel
theorem d_Mp_entity_134 : decode b_Mp_entity 134 = .ok (.getfield 24, 3) := by decide +kernel
theorem d_Mp_entity_137 : decode b_Mp_entity 137 = .ok (.getfield 161, 3) := by decide +kernel
theorem d_Mp_entity_140 : decode b_Mp_entity 140 = .ok (.getfield 99, 3) := by decide +kernel
theorem d_Mp_entity_143 : decode b_Mp_entity 143 = .ok (.ireturn, 1) := by decide +kernel
theorem d_Mp_entity_144 : decode b_Mp_entity 144 = .ok (.aload_n 3, 1) := by decide +kernel
theorem d_Mp_entity_145 : decode b_Mp_entity 145 = .ok (.getfield 164, 3) := by decide +kernel
theorem d_Mp_entity_148 : decode b_Mp_entity 148 = .ok (.aload_n 3, 1) := by decide +kernel
theorem d_Mp_entity_149 : decode b_Mp_entity 149 = .ok (.getfield 149, 3) := by decide +kernel
theorem d_Mp_entity_152 : decode b_Mp_entity 152 = .ok (.isub, 1) := by decide +kernel
theorem d_Mp_entity_153 : decode b_Mp_entity 153 = .ok (.ireturn, 1) := by decide +kernel
theorem d_Mp_entity_154 : decode b_Mp_entity 154 = .ok (.aload_n 3, 1) := by decide +kernel
theorem d_Mp_entity_155 : decode b_Mp_entity 155 = .ok (.getfield 158, 3) := by decide +kernel
theorem d_Mp_entity_158 : decode b_Mp_entity 158 = .ok (.aload_n 3, 1) := by decide +kernel
theorem d_Mp_entity_159 : decode b_Mp_entity 159 = .ok (.getfield 155, 3) := by decide +kernel
theorem d_Mp_entity_162 : decode b_Mp_entity 162 = .ok (.isub, 1) := by decide +kernel
theorem d_Mp_entity_163 : decode b_Mp_entity 163 = .ok (.ireturn, 1) := by decide +kernel
theorem d_Mp_entity_164 : decode b_Mp_entity 164 = .ok (.aload_n 3, 1) := by decide +kernel
theorem d_Mp_entity_165 : decode b_Mp_entity 165 = .ok (.getfield 167, 3) := by decide +kernel
theorem d_Mp_entity_168 : decode b_Mp_entity 168 = .ok (.ireturn, 1) := by decide +kernel
theorem d_Mp_entity_169 : decode b_Mp_entity 169 = .ok (.aload_n 0, 1) := by decide +kernel
theorem d_Mp_entity_170 : decode b_Mp_entity 170 = .ok (.aload_n 3, 1) := by decide +kernel
theorem d_Mp_entity_171 : decode b_Mp_entity 171 = .ok (.invokevirtual 170, 3) := by decide +kernel
theorem d_Mp_entity_174 : decode b_Mp_entity 174 = .ok (.ireturn, 1) := by decide +kernel
theorem d_Mp_entity_175 : decode b_Mp_entity 175 = .ok (.iconst (-1), 1) := by decide +kernel
theorem d_Mp_entity_176 : decode b_Mp_entity 176 = .ok (.ireturn, 1) := by decide +kernel
theorem d_Mp_length_0 : decode b_Mp_length 0 = .ok (.aload_n 0, 1) := by decide +kernel
theorem d_Mp_length_1 : decode b_Mp_length 1 = .ok (.iload_n 1, 1) := by decide +kernel
theorem d_Mp_length_2 : decode b_Mp_length 2 = .ok (.iload_n 2, 1) := by decide +kernel
theorem d_Mp_length_3 : decode b_Mp_length 3 = .ok (.invokevirtual 174, 3) := by decide +kernel
theorem d_Mp_length_6 : decode b_Mp_length 6 = .ok (.ifCond .eq 16, 3) := by decide +kernel
theorem d_Mp_length_9 : decode b_Mp_length 9 = .ok (.aload_n 0, 1) := by decide +kernel
theorem d_Mp_length_10 : decode b_Mp_length 10 = .ok (.getfield 31, 3) := by decide +kernel
theorem d_Mp_length_13 : decode b_Mp_length 13 = .ok (.getfield 178, 3) := by decide +kernel
theorem d_Mp_length_16 : decode b_Mp_length 16 = .ok (.getfield 99, 3) := by decide +kernel
theorem d_Mp_length_19 : decode b_Mp_length 19 = .ok (.goto 4, 3) := by decide +kernel
theorem d_Mp_length_22 : decode b_Mp_length 22 = .ok (.iconst (-1), 1) := by decide +kernel
theorem d_Mp_length_23 : decode b_Mp_length 23 = .ok (.ireturn, 1) := by decide +kernel
theorem d_Mp_at_0 : decode b_Mp_at 0 = .ok (.aload_n 0, 1) := by decide +kernel
theorem d_Mp_at_1 : decode b_Mp_at 1 = .ok (.iload_n 1, 1) := by decide +kernel
theorem d_Mp_at_2 : decode b_Mp_at 2 = .ok (.iload_n 2, 1) := by decide +kernel
theorem d_Mp_at_3 : decode b_Mp_at 3 = .ok (.invokevirtual 174, 3) := by decide +kernel
theorem d_Mp_at_6 : decode b_Mp_at 6 = .ok (.ifCond .eq 17, 3) := by decide +kernel
theorem d_Mp_at_9 : decode b_Mp_at 9 = .ok (.aload_n 0, 1) := by decide +kernel
theorem d_Mp_at_10 : decode b_Mp_at 10 = .ok (.getfield 31, 3) := by decide +kernel
theorem d_Mp_at_13 : decode b_Mp_at 13 = .ok (.getfield 178, 3) := by decide +kernel
theorem d_Mp_at_16 : decode b_Mp_at 16 = .ok (.iload_n 3, 1) := by decide +kernel
theorem d_Mp_at_17 : decode b_Mp_at 17 = .ok (.invokevirtual 102, 3) := by decide +kernel
theorem d_Mp_at_20 : decode b_Mp_at 20 = .ok (.goto 4, 3) := by decide +kernel
theorem d_Mp_at_23 : decode b_Mp_at 23 = .ok (.iconst (-1), 1) := by decide +kernel
theorem d_Mp_at_24 : decode b_Mp_at 24 = .ok (.ireturn, 1) := by decide +kernel
theorem d_Mp_field_0 : decode b_Mp_field 0 = .ok (.aload_n 0, 1) := by decide +kernel
theorem d_Mp_field_1 : decode b_Mp_field 1 = .ok (.iload_n 1, 1) := by decide +kernel
theorem d_Mp_field_2 : decode b_Mp_field 2 = .ok (.invokevirtual 132, 3) := by decide +kernel
theorem d_Mp_field_5 : decode b_Mp_field 5 = .ok (.astore_n 2, 1) := by decide +kernel
theorem d_Mp_field_6 : decode b_Mp_field 6 = .ok (.aload_n 2, 1) := by decide +kernel
theorem d_Mp_field_7 : decode b_Mp_field 7 = .ok (.ifnull 19, 3) := by decide +kernel
theorem d_Mp_field_10 : decode b_Mp_field 10 = .ok (.aload_n 0, 1) := by decide +kernel
theorem d_Mp_field_11 : decode b_Mp_field 11 = .ok (.aload_n 2, 1) := by decide +kernel
theorem d_Mp_field_12 : decode b_Mp_field 12 = .ok (.aload_n 0, 1) := by decide +kernel
theorem d_Mp_field_13 : decode b_Mp_field 13 = .ok (.getfield 18, 3) := by decide +kernel
theorem d_Mp_field_16 : decode b_Mp_field 16 = .ok (.invokevirtual 179, 3) := by decide +kernel
theorem d_Mp_field_19 : decode b_Mp_field 19 = .ok (.ifCond .eq 7, 3) := by decide +kernel
theorem d_Mp_field_22 : decode b_Mp_field 22 = .ok (.iconst 1, 1) := by decide +kernel
theorem d_Mp_field_23 : decode b_Mp_field 23 = .ok (.goto 4, 3) := by decide +kernel
theorem d_Mp_field_26 : decode b_Mp_field 26 = .ok (.iconst 0, 1) := by decide +kernel
theorem d_Mp_field_27 : decode b_Mp_field 27 = .ok (.istore_n 3, 1) := by decide +kernel
theorem d_Mp_field_28 : decode b_Mp_field 28 = .ok (.aload_n 0, 1) := by decide +kernel
theorem d_Mp_field_29 : decode b_Mp_field 29 = .ok (.iload_n 3, 1) := by decide +kernel
theorem d_Mp_field_30 : decode b_Mp_field 30 = .ok (.invokevirtual 183, 3) := by decide +kernel
theorem d_Mp_field_33 : decode b_Mp_field 33 = .ok (.ireturn, 1) := by decide +kernel
theorem d_Mp_parameter_0 : decode b_Mp_parameter 0 = .ok (.aload_n 0, 1) := by decide +kernel
theorem d_Mp_parameter_1 : decode b_Mp_parameter 1 = .ok (.iload_n 1, 1) := by decide +kernel
theorem d_Mp_parameter_2 : decode b_Mp_parameter 2 = .ok (.invokevirtual 132, 3) := by decide +kernel
theorem d_Mp_parameter_5 : decode b_Mp_parameter 5 = .ok (.astore_n 2, 1) := by decide +kernel
theorem d_Mp_parameter_6 : decode b_Mp_parameter 6 = .ok (.aload_n 2, 1) := by decide +kernel
theorem d_Mp_parameter_7 : decode b_Mp_parameter 7 = .ok (.ifnull 33, 3) := by decide +kernel
theorem d_Mp_parameter_10 : decode b_Mp_parameter 10 = .ok (.aload_n 0, 1) := by decide +kernel
theorem d_Mp_parameter_11 : decode b_Mp_parameter 11 = .ok (.aload_n 2, 1) := by decide +kernel
theorem d_Mp_parameter_12 : decode b_Mp_parameter 12 = .ok (.aload_n 0, 1) := by decide +kernel
theorem d_Mp_parameter_13 : decode b_Mp_parameter 13 = .ok (.getfield 41, 3) := by decide +kernel
theorem d_Mp_parameter_16 : decode b_Mp_parameter 16 = .ok (.invokevirtual 179, 3) := by decide +kernel
theorem d_Mp_parameter_19 : decode b_Mp_parameter 19 = .ok (.ifCond .eq 21, 3) := by decide +kernel
theorem d_Mp_parameter_22 : decode b_Mp_parameter 22 = .ok (.aload_n 0, 1) := by decide +kernel
theorem d_Mp_parameter_23 : decode b_Mp_parameter 23 = .ok (.getfield 31, 3) := by decide +kernel
theorem d_Mp_parameter_26 : decode b_Mp_parameter 26 = .ok (.aload_n 0, 1) := by decide +kernel
theorem d_Mp_parameter_27 : decode b_Mp_parameter 27 = .ok (.getfield 18, 3) := by decide +kernel
theorem d_Mp_parameter_30 : decode b_Mp_parameter 30 = .ok (.invokevirtual 187, 3) := by decide +kernel
theorem d_Mp_parameter_33 : decode b_Mp_parameter 33 = .ok (.ifCond .eq 7, 3) := by decide +kernel
theorem d_Mp_parameter_36 : decode b_Mp_parameter 36 = .ok (.iconst 1, 1) := by decide +kernel
theorem d_Mp_parameter_37 : decode b_Mp_parameter 37 = .ok (.goto 4, 3) := by decide +kernel
theorem d_Mp_parameter_40 : decode b_Mp_parameter 40 = .ok (.iconst 0, 1) := by decide +kernel
theorem d_Mp_parameter_41 : decode b_Mp_parameter 41 = .ok (.istore_n 3, 1) := by decide +kernel
theorem d_Mp_parameter_42 : decode b_Mp_parameter 42 = .ok (.aload_n 0, 1) := by decide +kernel
theorem d_Mp_parameter_43 : decode b_Mp_parameter 43 = .ok (.iload_n 3, 1) := by decide +kernel
theorem d_Mp_parameter_44 : decode b_Mp_parameter 44 = .ok (.invokevirtual 183, 3) := by decide +kernel
theorem d_Mp_parameter_47 : decode b_Mp_parameter 47 = .ok (.ireturn, 1) := by decide +kernel
theorem d_Mp_byteAt_0 : decode b_Mp_byteAt 0 = .ok (.aload_n 0, 1) := by decide +kernel
theorem d_Mp_byteAt_1 : decode b_Mp_byteAt 1 = .ok (.getfield 18, 3) := by decide +kernel
theorem d_Mp_byteAt_4 : decode b_Mp_byteAt 4 = .ok (.iload_n 1, 1) := by decide +kernel
theorem d_Mp_byteAt_5 : decode b_Mp_byteAt 5 = .ok (.invokevirtual 102, 3) := by decide +kernel
theorem d_Mp_byteAt_8 : decode b_Mp_byteAt 8 = .ok (.ireturn, 1) := by decide +kernel
theorem d_Mp_text_0 : decode b_Mp_text 0 = .ok (.iload_n 1, 1) := by decide +kernel
theorem d_Mp_text_1 : decode b_Mp_text 1 = .ok (.ifCond .eq 14, 3) := by decide +kernel
theorem d_Mp_text_4 : decode b_Mp_text 4 = .ok (.aload_n 0, 1) := by decide +kernel
theorem d_Mp_text_5 : decode b_Mp_text 5 = .ok (.getfield 83, 3) := by decide +kernel
theorem d_Mp_text_8 : decode b_Mp_text 8 = .ok (.iload_n 2, 1) := by decide +kernel
theorem d_Mp_text_9 : decode b_Mp_text 9 = .ok (.invokevirtual 102, 3) := by decide +kernel
theorem d_Mp_text_12 : decode b_Mp_text 12 = .ok (.goto 11, 3) := by decide +kernel
theorem d_Mp_text_15 : decode b_Mp_text 15 = .ok (.aload_n 0, 1) := by decide +kernel
theorem d_Mp_text_16 : decode b_Mp_text 16 = .ok (.getfield 80, 3) := by decide +kernel
theorem d_Mp_text_19 : decode b_Mp_text 19 = .ok (.iload_n 2, 1) := by decide +kernel
theorem d_Mp_text_20 : decode b_Mp_text 20 = .ok (.invokevirtual 102, 3) := by decide +kernel
theorem d_Mp_text_23 : decode b_Mp_text 23 = .ok (.ireturn, 1) := by decide +kernel
theorem d_Mp_body_0 : decode b_Mp_body 0 = .ok (.aload_n 0, 1) := by decide +kernel
theorem d_Mp_body_1 : decode b_Mp_body 1 = .ok (.iload_n 1, 1) := by decide +kernel
theorem d_Mp_body_2 : decode b_Mp_body 2 = .ok (.invokevirtual 132, 3) := by decide +kernel
theorem d_Mp_body_5 : decode b_Mp_body 5 = .ok (.astore_n 3, 1) := by decide +kernel
theorem d_Mp_body_6 : decode b_Mp_body 6 = .ok (.aload_n 3, 1) := by decide +kernel
theorem d_Mp_body_7 : decode b_Mp_body 7 = .ok (.ifnonnull 5, 3) := by decide +kernel
theorem d_Mp_body_10 : decode b_Mp_body 10 = .ok (.iconst (-1), 1) := by decide +kernel
theorem d_Mp_body_11 : decode b_Mp_body 11 = .ok (.ireturn, 1) := by decide +kernel
theorem d_Mp_body_12 : decode b_Mp_body 12 = .ok (.aload_n 0, 1) := by decide +kernel
theorem d_Mp_body_13 : decode b_Mp_body 13 = .ok (.getfield 24, 3) := by decide +kernel
theorem d_Mp_body_16 : decode b_Mp_body 16 = .ok (.aload_n 3, 1) := by decide +kernel
theorem d_Mp_body_17 : decode b_Mp_body 17 = .ok (.getfield 155, 3) := by decide +kernel
theorem d_Mp_body_20 : decode b_Mp_body 20 = .ok (.aload_n 3, 1) := by decide +kernel
theorem d_Mp_body_21 : decode b_Mp_body 21 = .ok (.getfield 158, 3) := by decide +kernel
theorem d_Mp_body_24 : decode b_Mp_body 24 = .ok (.aload_n 0, 1) := by decide +kernel
theorem d_Mp_body_25 : decode b_Mp_body 25 = .ok (.getfield 31, 3) := by decide +kernel
theorem d_Mp_body_28 : decode b_Mp_body 28 = .ok (.getfield 178, 3) := by decide +kernel
theorem d_Mp_body_31 : decode b_Mp_body 31 = .ok (.invokevirtual 191, 3) := by decide +kernel
theorem d_Mp_body_34 : decode b_Mp_body 34 = .ok (.iload_n 2, 1) := by decide +kernel
theorem d_Mp_body_35 : decode b_Mp_body 35 = .ok (.ifCond .lt 17, 3) := by decide +kernel
theorem d_Mp_body_38 : decode b_Mp_body 38 = .ok (.iload_n 2, 1) := by decide +kernel
theorem d_Mp_body_39 : decode b_Mp_body 39 = .ok (.aload_n 0, 1) := by decide +kernel
theorem d_Mp_body_40 : decode b_Mp_body 40 = .ok (.getfield 31, 3) := by decide +kernel
theorem d_Mp_body_43 : decode b_Mp_body 43 = .ok (.getfield 178, 3) := by decide +kernel
theorem d_Mp_body_46 : decode b_Mp_body 46 = .ok (.getfield 99, 3) := by decide +kernel
theorem d_Mp_body_49 : decode b_Mp_body 49 = .ok (.if_icmp .le 5, 3) := by decide +kernel
theorem d_Mp_body_52 : decode b_Mp_body 52 = .ok (.iconst (-1), 1) := by decide +kernel
theorem d_Mp_body_53 : decode b_Mp_body 53 = .ok (.ireturn, 1) := by decide +kernel
theorem d_Mp_body_54 : decode b_Mp_body 54 = .ok (.aload_n 0, 1) := by decide +kernel
theorem d_Mp_body_55 : decode b_Mp_body 55 = .ok (.getfield 18, 3) := by decide +kernel
theorem d_Mp_body_58 : decode b_Mp_body 58 = .ok (.invokevirtual 93, 3) := by decide +kernel
theorem d_Mp_body_61 : decode b_Mp_body 61 = .ok (.aload_n 0, 1) := by decide +kernel
theorem d_Mp_body_62 : decode b_Mp_body 62 = .ok (.getfield 18, 3) := by decide +kernel
theorem d_Mp_body_65 : decode b_Mp_body 65 = .ok (.aload_n 0, 1) := by decide +kernel
theorem d_Mp_body_66 : decode b_Mp_body 66 = .ok (.getfield 31, 3) := by decide +kernel
theorem d_Mp_body_69 : decode b_Mp_body 69 = .ok (.getfield 178, 3) := by decide +kernel
theorem d_Mp_body_72 : decode b_Mp_body 72 = .ok (.iload_n 2, 1) := by decide +kernel
theorem d_Mp_body_73 : decode b_Mp_body 73 = .ok (.aload_n 0, 1) := by decide +kernel
theorem d_Mp_body_74 : decode b_Mp_body 74 = .ok (.getfield 31, 3) := by decide +kernel
theorem d_Mp_body_77 : decode b_Mp_body 77 = .ok (.getfield 178, 3) := by decide +kernel
theorem d_Mp_body_80 : decode b_Mp_body 80 = .ok (.getfield 99, 3) := by decide +kernel
theorem d_Mp_body_83 : decode b_Mp_body 83 = .ok (.invokevirtual 195, 3) := by decide +kernel
theorem d_Mp_body_86 : decode b_Mp_body 86 = .ok (.aload_n 0, 1) := by decide +kernel
theorem d_Mp_body_87 : decode b_Mp_body 87 = .ok (.getfield 18, 3) := by decide +kernel
theorem d_Mp_body_90 : decode b_Mp_body 90 = .ok (.getfield 99, 3) := by decide +kernel
theorem d_Mp_body_93 : decode b_Mp_body 93 = .ok (.ireturn, 1) := by decide +kernel
theorem d_Mp_count_0 : decode b_Mp_count 0 = .ok (.iload_n 1, 1) := by decide +kernel
theorem d_Mp_count_1 : decode b_Mp_count 1 = .ok (.tableswitch 69 0 4 #[35, 40, 48, 56, 61], 35) := by decide +kernel
theorem d_Mp_count_36 : decode b_Mp_count 36 = .ok (.aload_n 0, 1) := by decide +kernel
theorem d_Mp_count_37 : decode b_Mp_count 37 = .ok (.getfield 86, 3) := by decide +kernel
theorem d_Mp_count_40 : decode b_Mp_count 40 = .ok (.ireturn, 1) := by decide +kernel
theorem d_Mp_count_41 : decode b_Mp_count 41 = .ok (.aload_n 0, 1) := by decide +kernel
theorem d_Mp_count_42 : decode b_Mp_count 42 = .ok (.getfield 80, 3) := by decide +kernel
theorem d_Mp_count_45 : decode b_Mp_count 45 = .ok (.getfield 99, 3) := by decide +kernel
theorem d_Mp_count_48 : decode b_Mp_count 48 = .ok (.ireturn, 1) := by decide +kernel
theorem d_Mp_count_49 : decode b_Mp_count 49 = .ok (.aload_n 0, 1) := by decide +kernel
theorem d_Mp_count_50 : decode b_Mp_count 50 = .ok (.getfield 83, 3) := by decide +kernel
theorem d_Mp_count_53 : decode b_Mp_count 53 = .ok (.getfield 99, 3) := by decide +kernel
theorem d_Mp_count_56 : decode b_Mp_count 56 = .ok (.ireturn, 1) := by decide +kernel
theorem d_Mp_count_57 : decode b_Mp_count 57 = .ok (.aload_n 0, 1) := by decide +kernel
theorem d_Mp_count_58 : decode b_Mp_count 58 = .ok (.getfield 90, 3) := by decide +kernel
theorem d_Mp_count_61 : decode b_Mp_count 61 = .ok (.ireturn, 1) := by decide +kernel
theorem d_Mp_count_62 : decode b_Mp_count 62 = .ok (.aload_n 0, 1) := by decide +kernel
theorem d_Mp_count_63 : decode b_Mp_count 63 = .ok (.getfield 24, 3) := by decide +kernel
theorem d_Mp_count_66 : decode b_Mp_count 66 = .ok (.getfield 119, 3) := by decide +kernel
theorem d_Mp_count_69 : decode b_Mp_count 69 = .ok (.ireturn, 1) := by decide +kernel
theorem d_Mp_count_70 : decode b_Mp_count 70 = .ok (.iconst (-1), 1) := by decide +kernel
theorem d_Mp_count_71 : decode b_Mp_count 71 = .ok (.ireturn, 1) := by decide +kernel
theorem d_Mp_addWord_0 : decode b_Mp_addWord 0 = .ok (.aload_n 0, 1) := by decide +kernel
theorem d_Mp_addWord_1 : decode b_Mp_addWord 1 = .ok (.getfield 14, 3) := by decide +kernel
theorem d_Mp_addWord_4 : decode b_Mp_addWord 4 = .ok (.iload_n 1, 1) := by decide +kernel
theorem d_Mp_addWord_5 : decode b_Mp_addWord 5 = .ok (.bipush 24, 2) := by decide +kernel
theorem d_Mp_addWord_7 : decode b_Mp_addWord 7 = .ok (.iushr, 1) := by decide +kernel
theorem d_Mp_addWord_8 : decode b_Mp_addWord 8 = .ok (.sipush 255, 3) := by decide +kernel
theorem d_Mp_addWord_11 : decode b_Mp_addWord 11 = .ok (.iand, 1) := by decide +kernel
theorem d_Mp_addWord_12 : decode b_Mp_addWord 12 = .ok (.invokevirtual 112, 3) := by decide +kernel
theorem d_Mp_addWord_15 : decode b_Mp_addWord 15 = .ok (.aload_n 0, 1) := by decide +kernel
theorem d_Mp_addWord_16 : decode b_Mp_addWord 16 = .ok (.getfield 14, 3) := by decide +kernel
theorem d_Mp_addWord_19 : decode b_Mp_addWord 19 = .ok (.iload_n 1, 1) := by decide +kernel
theorem d_Mp_addWord_20 : decode b_Mp_addWord 20 = .ok (.bipush 16, 2) := by decide +kernel
theorem d_Mp_addWord_22 : decode b_Mp_addWord 22 = .ok (.iushr, 1) := by decide +kernel
theorem d_Mp_addWord_23 : decode b_Mp_addWord 23 = .ok (.sipush 255, 3) := by decide +kernel
theorem d_Mp_addWord_26 : decode b_Mp_addWord 26 = .ok (.iand, 1) := by decide +kernel
theorem d_Mp_addWord_27 : decode b_Mp_addWord 27 = .ok (.invokevirtual 112, 3) := by decide +kernel
theorem d_Mp_addWord_30 : decode b_Mp_addWord 30 = .ok (.aload_n 0, 1) := by decide +kernel
theorem d_Mp_addWord_31 : decode b_Mp_addWord 31 = .ok (.getfield 14, 3) := by decide +kernel
theorem d_Mp_addWord_34 : decode b_Mp_addWord 34 = .ok (.iload_n 1, 1) := by decide +kernel
theorem d_Mp_addWord_35 : decode b_Mp_addWord 35 = .ok (.bipush 8, 2) := by decide +kernel
theorem d_Mp_addWord_37 : decode b_Mp_addWord 37 = .ok (.iushr, 1) := by decide +kernel
theorem d_Mp_addWord_38 : decode b_Mp_addWord 38 = .ok (.sipush 255, 3) := by decide +kernel
theorem d_Mp_addWord_41 : decode b_Mp_addWord 41 = .ok (.iand, 1) := by decide +kernel
theorem d_Mp_addWord_42 : decode b_Mp_addWord 42 = .ok (.invokevirtual 112, 3) := by decide +kernel
theorem d_Mp_addWord_45 : decode b_Mp_addWord 45 = .ok (.aload_n 0, 1) := by decide +kernel
theorem d_Mp_addWord_46 : decode b_Mp_addWord 46 = .ok (.getfield 14, 3) := by decide +kernel
theorem d_Mp_addWord_49 : decode b_Mp_addWord 49 = .ok (.iload_n 1, 1) := by decide +kernel
theorem d_Mp_addWord_50 : decode b_Mp_addWord 50 = .ok (.sipush 255, 3) := by decide +kernel
theorem d_Mp_addWord_53 : decode b_Mp_addWord 53 = .ok (.iand, 1) := by decide +kernel
theorem d_Mp_addWord_54 : decode b_Mp_addWord 54 = .ok (.invokevirtual 112, 3) := by decide +kernel
theorem d_Mp_addWord_57 : decode b_Mp_addWord 57 = .ok (.return_, 1) := by decide +kernel
theorem d_Mp_find_0 : decode b_Mp_find 0 = .ok (.iload_n 1, 1) := by decide +kernel
theorem d_Mp_find_1 : decode b_Mp_find 1 = .ok (.ifCond .lt 29, 3) := by decide +kernel
theorem d_Mp_find_4 : decode b_Mp_find 4 = .ok (.iload_n 1, 1) := by decide +kernel
theorem d_Mp_find_5 : decode b_Mp_find 5 = .ok (.aload_n 0, 1) := by decide +kernel
theorem d_Mp_find_6 : decode b_Mp_find 6 = .ok (.getfield 86, 3) := by decide +kernel
theorem d_Mp_find_9 : decode b_Mp_find 9 = .ok (.if_icmp .ge 21, 3) := by decide +kernel
theorem d_Mp_find_12 : decode b_Mp_find 12 = .ok (.iload_n 1, 1) := by decide +kernel
theorem d_Mp_find_13 : decode b_Mp_find 13 = .ok (.aload_n 0, 1) := by decide +kernel
theorem d_Mp_find_14 : decode b_Mp_find 14 = .ok (.getfield 71, 3) := by decide +kernel
theorem d_Mp_find_17 : decode b_Mp_find 17 = .ok (.arraylength, 1) := by decide +kernel
theorem d_Mp_find_18 : decode b_Mp_find 18 = .ok (.if_icmp .ge 12, 3) := by decide +kernel
theorem d_Mp_find_21 : decode b_Mp_find 21 = .ok (.aload_n 0, 1) := by decide +kernel
theorem d_Mp_find_22 : decode b_Mp_find 22 = .ok (.getfield 71, 3) := by decide +kernel
theorem d_Mp_find_25 : decode b_Mp_find 25 = .ok (.iload_n 1, 1) := by decide +kernel
theorem d_Mp_find_26 : decode b_Mp_find 26 = .ok (.aaload, 1) := by decide +kernel
theorem d_Mp_find_27 : decode b_Mp_find 27 = .ok (.goto 4, 3) := by decide +kernel
theorem d_Mp_find_30 : decode b_Mp_find 30 = .ok (.aconst_null, 1) := by decide +kernel
theorem d_Mp_find_31 : decode b_Mp_find 31 = .ok (.areturn, 1) := by decide +kernel
theorem d_Mp_answerOnTape_0 : decode b_Mp_answerOnTape 0 = .ok (.aload_n 0, 1) := by decide +kernel
theorem d_Mp_answerOnTape_1 : decode b_Mp_answerOnTape 1 = .ok (.getfield 18, 3) := by decide +kernel
theorem d_Mp_answerOnTape_4 : decode b_Mp_answerOnTape 4 = .ok (.invokevirtual 93, 3) := by decide +kernel
theorem d_Mp_answerOnTape_7 : decode b_Mp_answerOnTape 7 = .ok (.iload_n 1, 1) := by decide +kernel
theorem d_Mp_answerOnTape_8 : decode b_Mp_answerOnTape 8 = .ok (.ifCond .ne 5, 3) := by decide +kernel
theorem d_Mp_answerOnTape_11 : decode b_Mp_answerOnTape 11 = .ok (.iconst (-1), 1) := by decide +kernel
theorem d_Mp_answerOnTape_12 : decode b_Mp_answerOnTape 12 = .ok (.ireturn, 1) := by decide +kernel
theorem d_Mp_answerOnTape_13 : decode b_Mp_answerOnTape 13 = .ok (.aload_n 0, 1) := by decide +kernel
theorem d_Mp_answerOnTape_14 : decode b_Mp_answerOnTape 14 = .ok (.getfield 18, 3) := by decide +kernel
theorem d_Mp_answerOnTape_17 : decode b_Mp_answerOnTape 17 = .ok (.aload_n 0, 1) := by decide +kernel
theorem d_Mp_answerOnTape_18 : decode b_Mp_answerOnTape 18 = .ok (.getfield 31, 3) := by decide +kernel
theorem d_Mp_answerOnTape_21 : decode b_Mp_answerOnTape 21 = .ok (.getfield 178, 3) := by decide +kernel
theorem d_Mp_answerOnTape_24 : decode b_Mp_answerOnTape 24 = .ok (.iconst 0, 1) := by decide +kernel
theorem d_Mp_answerOnTape_25 : decode b_Mp_answerOnTape 25 = .ok (.aload_n 0, 1) := by decide +kernel
theorem d_Mp_answerOnTape_26 : decode b_Mp_answerOnTape 26 = .ok (.getfield 31, 3) := by decide +kernel
theorem d_Mp_answerOnTape_29 : decode b_Mp_answerOnTape 29 = .ok (.getfield 178, 3) := by decide +kernel
theorem d_Mp_answerOnTape_32 : decode b_Mp_answerOnTape 32 = .ok (.getfield 99, 3) := by decide +kernel
theorem d_Mp_answerOnTape_35 : decode b_Mp_answerOnTape 35 = .ok (.invokevirtual 195, 3) := by decide +kernel
theorem d_Mp_answerOnTape_38 : decode b_Mp_answerOnTape 38 = .ok (.aload_n 0, 1) := by decide +kernel
theorem d_Mp_answerOnTape_39 : decode b_Mp_answerOnTape 39 = .ok (.getfield 18, 3) := by decide +kernel
theorem d_Mp_answerOnTape_42 : decode b_Mp_answerOnTape 42 = .ok (.getfield 99, 3) := by decide +kernel
theorem d_Mp_answerOnTape_45 : decode b_Mp_answerOnTape 45 = .ok (.ireturn, 1) := by decide +kernel
theorem d_Mp_countFields_0 : decode b_Mp_countFields 0 = .ok (.aload_n 1, 1) := by decide +kernel
theorem d_Mp_countFields_1 : decode b_Mp_countFields 1 = .ok (.getfield 199, 3) := by decide +kernel
theorem d_Mp_countFields_4 : decode b_Mp_countFields 4 = .ok (.iconst (-1), 1) := by decide +kernel
theorem d_Mp_countFields_5 : decode b_Mp_countFields 5 = .ok (.if_icmp .eq 8, 3) := by decide +kernel
theorem d_Mp_countFields_8 : decode b_Mp_countFields 8 = .ok (.aload_n 1, 1) := by decide +kernel
theorem d_Mp_countFields_9 : decode b_Mp_countFields 9 = .ok (.getfield 199, 3) := by decide +kernel
theorem d_Mp_countFields_12 : decode b_Mp_countFields 12 = .ok (.ireturn, 1) := by decide +kernel
theorem d_Mp_countFields_13 : decode b_Mp_countFields 13 = .ok (.iconst 0, 1) := by decide +kernel
theorem d_Mp_countFields_14 : decode b_Mp_countFields 14 = .ok (.istore_n 2, 1) := by decide +kernel
theorem d_Mp_countFields_15 : decode b_Mp_countFields 15 = .ok (.aload_n 1, 1) := by decide +kernel
theorem d_Mp_countFields_16 : decode b_Mp_countFields 16 = .ok (.getfield 149, 3) := by decide +kernel
theorem d_Mp_countFields_19 : decode b_Mp_countFields 19 = .ok (.istore_n 3, 1) := by decide +kernel
theorem d_Mp_countFields_20 : decode b_Mp_countFields 20 = .ok (.iload_n 3, 1) := by decide +kernel
theorem d_Mp_countFields_21 : decode b_Mp_countFields 21 = .ok (.aload_n 1, 1) := by decide +kernel
theorem d_Mp_countFields_22 : decode b_Mp_countFields 22 = .ok (.getfield 164, 3) := by decide +kernel
theorem d_Mp_countFields_25 : decode b_Mp_countFields 25 = .ok (.if_icmp .ge 96, 3) := by decide +kernel
theorem d_Mp_countFields_28 : decode b_Mp_countFields 28 = .ok (.aload_n 0, 1) := by decide +kernel
theorem d_Mp_countFields_29 : decode b_Mp_countFields 29 = .ok (.getfield 24, 3) := by decide +kernel
theorem d_Mp_countFields_32 : decode b_Mp_countFields 32 = .ok (.iload_n 3, 1) := by decide +kernel
theorem d_Mp_countFields_33 : decode b_Mp_countFields 33 = .ok (.invokevirtual 202, 3) := by decide +kernel
theorem d_Mp_countFields_36 : decode b_Mp_countFields 36 = .ok (.istore 4, 2) := by decide +kernel
theorem d_Mp_countFields_38 : decode b_Mp_countFields 38 = .ok (.iload 4, 2) := by decide +kernel
theorem d_Mp_countFields_40 : decode b_Mp_countFields 40 = .ok (.iconst (-1), 1) := by decide +kernel
theorem d_Mp_countFields_41 : decode b_Mp_countFields 41 = .ok (.if_icmp .eq 74, 3) := by decide +kernel
theorem d_Mp_countFields_44 : decode b_Mp_countFields 44 = .ok (.aload_n 0, 1) := by decide +kernel
theorem d_Mp_countFields_45 : decode b_Mp_countFields 45 = .ok (.getfield 31, 3) := by decide +kernel
theorem d_Mp_countFields_48 : decode b_Mp_countFields 48 = .ok (.getfield 178, 3) := by decide +kernel
theorem d_Mp_countFields_51 : decode b_Mp_countFields 51 = .ok (.invokevirtual 93, 3) := by decide +kernel
theorem d_Mp_countFields_54 : decode b_Mp_countFields 54 = .ok (.aload_n 0, 1) := by decide +kernel
theorem d_Mp_countFields_55 : decode b_Mp_countFields 55 = .ok (.getfield 31, 3) := by decide +kernel
theorem d_Mp_countFields_58 : decode b_Mp_countFields 58 = .ok (.getfield 178, 3) := by decide +kernel
theorem d_Mp_countFields_61 : decode b_Mp_countFields 61 = .ok (.aload_n 0, 1) := by decide +kernel
theorem d_Mp_countFields_62 : decode b_Mp_countFields 62 = .ok (.getfield 24, 3) := by decide +kernel
theorem d_Mp_countFields_65 : decode b_Mp_countFields 65 = .ok (.getfield 161, 3) := by decide +kernel
theorem d_Mp_countFields_68 : decode b_Mp_countFields 68 = .ok (.aload_n 0, 1) := by decide +kernel
theorem d_Mp_countFields_69 : decode b_Mp_countFields 69 = .ok (.getfield 24, 3) := by decide +kernel
theorem d_Mp_countFields_72 : decode b_Mp_countFields 72 = .ok (.iload_n 3, 1) := by decide +kernel
theorem d_Mp_countFields_73 : decode b_Mp_countFields 73 = .ok (.invokevirtual 152, 3) := by decide +kernel
theorem d_Mp_countFields_76 : decode b_Mp_countFields 76 = .ok (.iload 4, 2) := by decide +kernel
theorem d_Mp_countFields_78 : decode b_Mp_countFields 78 = .ok (.invokevirtual 195, 3) := by decide +kernel
theorem d_Mp_countFields_81 : decode b_Mp_countFields 81 = .ok (.iload_n 2, 1) := by decide +kernel
theorem d_Mp_countFields_82 : decode b_Mp_countFields 82 = .ok (.aload_n 0, 1) := by decide +kernel
theorem d_Mp_countFields_83 : decode b_Mp_countFields 83 = .ok (.getfield 24, 3) := by decide +kernel
theorem d_Mp_countFields_86 : decode b_Mp_countFields 86 = .ok (.aload_n 1, 1) := by decide +kernel
theorem d_Mp_countFields_87 : decode b_Mp_countFields 87 = .ok (.getfield 149, 3) := by decide +kernel
theorem d_Mp_countFields_90 : decode b_Mp_countFields 90 = .ok (.aload_n 1, 1) := by decide +kernel
theorem d_Mp_countFields_91 : decode b_Mp_countFields 91 = .ok (.getfield 164, 3) := by decide +kernel
theorem d_Mp_countFields_94 : decode b_Mp_countFields 94 = .ok (.aload_n 0, 1) := by decide +kernel
theorem d_Mp_countFields_95 : decode b_Mp_countFields 95 = .ok (.getfield 31, 3) := by decide +kernel
theorem d_Mp_countFields_98 : decode b_Mp_countFields 98 = .ok (.getfield 178, 3) := by decide +kernel
theorem d_Mp_countFields_101 : decode b_Mp_countFields 101 = .ok (.invokevirtual 205, 3) := by decide +kernel
theorem d_Mp_countFields_104 : decode b_Mp_countFields 104 = .ok (.iload_n 3, 1) := by decide +kernel
theorem d_Mp_countFields_105 : decode b_Mp_countFields 105 = .ok (.if_icmp .ne 7, 3) := by decide +kernel
theorem d_Mp_countFields_108 : decode b_Mp_countFields 108 = .ok (.iconst 1, 1) := by decide +kernel
theorem d_Mp_countFields_109 : decode b_Mp_countFields 109 = .ok (.goto 4, 3) := by decide +kernel
theorem d_Mp_countFields_112 : decode b_Mp_countFields 112 = .ok (.iconst 0, 1) := by decide +kernel
theorem d_Mp_countFields_113 : decode b_Mp_countFields 113 = .ok (.iadd, 1) := by decide +kernel
theorem d_Mp_countFields_114 : decode b_Mp_countFields 114 = .ok (.istore_n 2, 1) := by decide +kernel
theorem d_Mp_countFields_115 : decode b_Mp_countFields 115 = .ok (.iinc 3 1, 3) := by decide +kernel
theorem d_Mp_countFields_118 : decode b_Mp_countFields 118 = .ok (.goto (-98), 3) := by decide +kernel
theorem d_Mp_countFields_121 : decode b_Mp_countFields 121 = .ok (.aload_n 1, 1) := by decide +kernel
theorem d_Mp_countFields_122 : decode b_Mp_countFields 122 = .ok (.iload_n 2, 1) := by decide +kernel
theorem d_Mp_countFields_123 : decode b_Mp_countFields 123 = .ok (.putfield 199, 3) := by decide +kernel
theorem d_Mp_countFields_126 : decode b_Mp_countFields 126 = .ok (.iload_n 2, 1) := by decide +kernel
theorem d_Mp_countFields_127 : decode b_Mp_countFields 127 = .ok (.ireturn, 1) := by decide +kernel
theorem d_Mp_openEntity_0 : decode b_Mp_openEntity 0 = .ok (.aload_n 0, 1) := by decide +kernel
theorem d_Mp_openEntity_1 : decode b_Mp_openEntity 1 = .ok (.getfield 86, 3) := by decide +kernel
theorem d_Mp_openEntity_4 : decode b_Mp_openEntity 4 = .ok (.aload_n 0, 1) := by decide +kernel
theorem d_Mp_openEntity_5 : decode b_Mp_openEntity 5 = .ok (.getfield 71, 3) := by decide +kernel
theorem d_Mp_openEntity_8 : decode b_Mp_openEntity 8 = .ok (.arraylength, 1) := by decide +kernel
theorem d_Mp_openEntity_9 : decode b_Mp_openEntity 9 = .ok (.if_icmp .ge 10, 3) := by decide +kernel
theorem d_Mp_openEntity_12 : decode b_Mp_openEntity 12 = .ok (.iload 4, 2) := by decide +kernel
theorem d_Mp_openEntity_14 : decode b_Mp_openEntity 14 = .ok (.bipush 8, 2) := by decide +kernel
theorem d_Mp_openEntity_16 : decode b_Mp_openEntity 16 = .ok (.if_icmp .le 14, 3) := by decide +kernel
theorem d_Mp_openEntity_19 : decode b_Mp_openEntity 19 = .ok (.aload_n 0, 1) := by decide +kernel
theorem d_Mp_openEntity_20 : decode b_Mp_openEntity 20 = .ok (.dup, 1) := by decide +kernel
theorem d_Mp_openEntity_21 : decode b_Mp_openEntity 21 = .ok (.getfield 90, 3) := by decide +kernel
theorem d_Mp_openEntity_24 : decode b_Mp_openEntity 24 = .ok (.iconst 1, 1) := by decide +kernel
theorem d_Mp_openEntity_25 : decode b_Mp_openEntity 25 = .ok (.iadd, 1) := by decide +kernel
theorem d_Mp_openEntity_26 : decode b_Mp_openEntity 26 = .ok (.putfield 90, 3) := by decide +kernel
theorem d_Mp_openEntity_29 : decode b_Mp_openEntity 29 = .ok (.return_, 1) := by decide +kernel
theorem d_Mp_openEntity_30 : decode b_Mp_openEntity 30 = .ok (.aload_n 0, 1) := by decide +kernel
theorem d_Mp_openEntity_31 : decode b_Mp_openEntity 31 = .ok (.getfield 86, 3) := by decide +kernel
theorem d_Mp_openEntity_34 : decode b_Mp_openEntity 34 = .ok (.istore 5, 2) := by decide +kernel
theorem d_Mp_openEntity_36 : decode b_Mp_openEntity 36 = .ok (.aload_n 0, 1) := by decide +kernel
theorem d_Mp_openEntity_37 : decode b_Mp_openEntity 37 = .ok (.dup, 1) := by decide +kernel
theorem d_Mp_openEntity_38 : decode b_Mp_openEntity 38 = .ok (.getfield 86, 3) := by decide +kernel
theorem d_Mp_openEntity_41 : decode b_Mp_openEntity 41 = .ok (.iconst 1, 1) := by decide +kernel
theorem d_Mp_openEntity_42 : decode b_Mp_openEntity 42 = .ok (.iadd, 1) := by decide +kernel
theorem d_Mp_openEntity_43 : decode b_Mp_openEntity 43 = .ok (.putfield 86, 3) := by decide +kernel
theorem d_Mp_openEntity_46 : decode b_Mp_openEntity 46 = .ok (.aload_n 0, 1) := by decide +kernel
theorem d_Mp_openEntity_47 : decode b_Mp_openEntity 47 = .ok (.getfield 71, 3) := by decide +kernel
theorem d_Mp_openEntity_50 : decode b_Mp_openEntity 50 = .ok (.iload 5, 2) := by decide +kernel
theorem d_Mp_openEntity_52 : decode b_Mp_openEntity 52 = .ok (.aaload, 1) := by decide +kernel
theorem d_Mp_openEntity_53 : decode b_Mp_openEntity 53 = .ok (.astore 6, 2) := by decide +kernel
theorem d_Mp_openEntity_55 : decode b_Mp_openEntity 55 = .ok (.aload 6, 2) := by decide +kernel
theorem d_Mp_openEntity_57 : decode b_Mp_openEntity 57 = .ok (.iload_n 3, 1) := by decide +kernel
theorem d_Mp_openEntity_58 : decode b_Mp_openEntity 58 = .ok (.putfield 139, 3) := by decide +kernel
theorem d_Mp_openEntity_61 : decode b_Mp_openEntity 61 = .ok (.aload 6, 2) := by decide +kernel
theorem d_Mp_openEntity_63 : decode b_Mp_openEntity 63 = .ok (.iload 4, 2) := by decide +kernel
theorem d_Mp_openEntity_65 : decode b_Mp_openEntity 65 = .ok (.putfield 142, 3) := by decide +kernel
theorem d_Mp_openEntity_68 : decode b_Mp_openEntity 68 = .ok (.aload 6, 2) := by decide +kernel
theorem d_Mp_openEntity_70 : decode b_Mp_openEntity 70 = .ok (.iload_n 1, 1) := by decide +kernel
theorem d_Mp_openEntity_71 : decode b_Mp_openEntity 71 = .ok (.putfield 149, 3) := by decide +kernel
theorem d_Mp_openEntity_74 : decode b_Mp_openEntity 74 = .ok (.aload 6, 2) := by decide +kernel
theorem d_Mp_openEntity_76 : decode b_Mp_openEntity 76 = .ok (.iload_n 2, 1) := by decide +kernel
theorem d_Mp_openEntity_77 : decode b_Mp_openEntity 77 = .ok (.putfield 158, 3) := by decide +kernel
theorem d_Mp_openEntity_80 : decode b_Mp_openEntity 80 = .ok (.aload 6, 2) := by decide +kernel
theorem d_Mp_openEntity_82 : decode b_Mp_openEntity 82 = .ok (.iconst 0, 1) := by decide +kernel
theorem d_Mp_openEntity_83 : decode b_Mp_openEntity 83 = .ok (.putfield 167, 3) := by decide +kernel
theorem d_Mp_openEntity_86 : decode b_Mp_openEntity 86 = .ok (.aload 6, 2) := by decide +kernel
theorem d_Mp_openEntity_88 : decode b_Mp_openEntity 88 = .ok (.iconst (-1), 1) := by decide +kernel
theorem d_Mp_openEntity_89 : decode b_Mp_openEntity 89 = .ok (.putfield 199, 3) := by decide +kernel
theorem d_Mp_openEntity_92 : decode b_Mp_openEntity 92 = .ok (.aload 6, 2) := by decide +kernel
theorem d_Mp_openEntity_94 : decode b_Mp_openEntity 94 = .ok (.aload_n 0, 1) := by decide +kernel
theorem d_Mp_openEntity_95 : decode b_Mp_openEntity 95 = .ok (.getfield 24, 3) := by decide +kernel
theorem d_Mp_openEntity_98 : decode b_Mp_openEntity 98 = .ok (.iload_n 1, 1) := by decide +kernel
theorem d_Mp_openEntity_99 : decode b_Mp_openEntity 99 = .ok (.iload_n 2, 1) := by decide +kernel
theorem d_Mp_openEntity_100 : decode b_Mp_openEntity 100 = .ok (.invokevirtual 209, 3) := by decide +kernel
theorem d_Mp_openEntity_103 : decode b_Mp_openEntity 103 = .ok (.putfield 164, 3) := by decide +kernel
theorem d_Mp_openEntity_106 : decode b_Mp_openEntity 106 = .ok (.aload 6, 2) := by decide +kernel
theorem d_Mp_openEntity_108 : decode b_Mp_openEntity 108 = .ok (.aload 6, 2) := by decide +kernel
theorem d_Mp_openEntity_110 : decode b_Mp_openEntity 110 = .ok (.getfield 164, 3) := by decide +kernel
theorem d_Mp_openEntity_113 : decode b_Mp_openEntity 113 = .ok (.iload_n 2, 1) := by decide +kernel
theorem d_Mp_openEntity_114 : decode b_Mp_openEntity 114 = .ok (.if_icmp .ge 28, 3) := by decide +kernel
theorem d_Mp_openEntity_117 : decode b_Mp_openEntity 117 = .ok (.aload_n 0, 1) := by decide +kernel
theorem d_Mp_openEntity_118 : decode b_Mp_openEntity 118 = .ok (.getfield 24, 3) := by decide +kernel
theorem d_Mp_openEntity_121 : decode b_Mp_openEntity 121 = .ok (.aload 6, 2) := by decide +kernel
theorem d_Mp_openEntity_123 : decode b_Mp_openEntity 123 = .ok (.getfield 164, 3) := by decide +kernel
theorem d_Mp_openEntity_126 : decode b_Mp_openEntity 126 = .ok (.invokevirtual 212, 3) := by decide +kernel
theorem d_Mp_openEntity_129 : decode b_Mp_openEntity 129 = .ok (.ifCond .eq 13, 3) := by decide +kernel
theorem d_Mp_openEntity_132 : decode b_Mp_openEntity 132 = .ok (.aload 6, 2) := by decide +kernel
theorem d_Mp_openEntity_134 : decode b_Mp_openEntity 134 = .ok (.getfield 164, 3) := by decide +kernel
theorem d_Mp_openEntity_137 : decode b_Mp_openEntity 137 = .ok (.iconst 1, 1) := by decide +kernel
theorem d_Mp_openEntity_138 : decode b_Mp_openEntity 138 = .ok (.iadd, 1) := by decide +kernel
theorem d_Mp_openEntity_139 : decode b_Mp_openEntity 139 = .ok (.goto 8, 3) := by decide +kernel
theorem d_Mp_openEntity_142 : decode b_Mp_openEntity 142 = .ok (.aload 6, 2) := by decide +kernel
theorem d_Mp_openEntity_144 : decode b_Mp_openEntity 144 = .ok (.getfield 164, 3) := by decide +kernel
theorem d_Mp_openEntity_147 : decode b_Mp_openEntity 147 = .ok (.putfield 155, 3) := by decide +kernel
theorem d_Mp_openEntity_150 : decode b_Mp_openEntity 150 = .ok (.aload_n 0, 1) := by decide +kernel
theorem d_Mp_openEntity_151 : decode b_Mp_openEntity 151 = .ok (.iload_n 3, 1) := by decide +kernel
theorem d_Mp_openEntity_152 : decode b_Mp_openEntity 152 = .ok (.invokevirtual 132, 3) := by decide +kernel
theorem d_Mp_openEntity_155 : decode b_Mp_openEntity 155 = .ok (.astore 7, 2) := by decide +kernel
theorem d_Mp_openEntity_157 : decode b_Mp_openEntity 157 = .ok (.aload 7, 2) := by decide +kernel
theorem d_Mp_openEntity_159 : decode b_Mp_openEntity 159 = .ok (.ifnull 14, 3) := by decide +kernel
theorem d_Mp_openEntity_162 : decode b_Mp_openEntity 162 = .ok (.aload 7, 2) := by decide +kernel
theorem d_Mp_openEntity_164 : decode b_Mp_openEntity 164 = .ok (.dup, 1) := by decide +kernel
theorem d_Mp_openEntity_165 : decode b_Mp_openEntity 165 = .ok (.getfield 167, 3) := by decide +kernel
theorem d_Mp_openEntity_168 : decode b_Mp_openEntity 168 = .ok (.iconst 1, 1) := by decide +kernel
theorem d_Mp_openEntity_169 : decode b_Mp_openEntity 169 = .ok (.iadd, 1) := by decide +kernel
theorem d_Mp_openEntity_170 : decode b_Mp_openEntity 170 = .ok (.putfield 167, 3) := by decide +kernel
theorem d_Mp_openEntity_173 : decode b_Mp_openEntity 173 = .ok (.aload_n 0, 1) := by decide +kernel
theorem d_Mp_openEntity_174 : decode b_Mp_openEntity 174 = .ok (.aload 6, 2) := by decide +kernel
theorem d_Mp_openEntity_176 : decode b_Mp_openEntity 176 = .ok (.invokevirtual 216, 3) := by decide +kernel
theorem d_Mp_openEntity_179 : decode b_Mp_openEntity 179 = .ok (.aload 6, 2) := by decide +kernel
theorem d_Mp_openEntity_181 : decode b_Mp_openEntity 181 = .ok (.getfield 136, 3) := by decide +kernel
theorem d_Mp_openEntity_184 : decode b_Mp_openEntity 184 = .ok (.iconst 1, 1) := by decide +kernel
theorem d_Mp_openEntity_185 : decode b_Mp_openEntity 185 = .ok (.if_icmp .ne 16, 3) := by decide +kernel
theorem d_Mp_openEntity_188 : decode b_Mp_openEntity 188 = .ok (.aload_n 0, 1) := by decide +kernel
theorem d_Mp_openEntity_189 : decode b_Mp_openEntity 189 = .ok (.aload 6, 2) := by decide +kernel
theorem d_Mp_openEntity_191 : decode b_Mp_openEntity 191 = .ok (.iload 5, 2) := by decide +kernel
theorem d_Mp_openEntity_193 : decode b_Mp_openEntity 193 = .ok (.iload 4, 2) := by decide +kernel
theorem d_Mp_openEntity_195 : decode b_Mp_openEntity 195 = .ok (.invokevirtual 220, 3) := by decide +kernel
theorem d_Mp_openEntity_198 : decode b_Mp_openEntity 198 = .ok (.goto 28, 3) := by decide +kernel
theorem d_Mp_openEntity_201 : decode b_Mp_openEntity 201 = .ok (.aload 6, 2) := by decide +kernel
theorem d_Mp_openEntity_203 : decode b_Mp_openEntity 203 = .ok (.getfield 136, 3) := by decide +kernel
theorem d_Mp_openEntity_206 : decode b_Mp_openEntity 206 = .ok (.iconst 2, 1) := by decide +kernel
theorem d_Mp_openEntity_207 : decode b_Mp_openEntity 207 = .ok (.if_icmp .ne 19, 3) := by decide +kernel
theorem d_Mp_openEntity_210 : decode b_Mp_openEntity 210 = .ok (.aload_n 0, 1) := by decide +kernel
theorem d_Mp_openEntity_211 : decode b_Mp_openEntity 211 = .ok (.aload 6, 2) := by decide +kernel
theorem d_Mp_openEntity_213 : decode b_Mp_openEntity 213 = .ok (.getfield 155, 3) := by decide +kernel
theorem d_Mp_openEntity_216 : decode b_Mp_openEntity 216 = .ok (.iload_n 2, 1) := by decide +kernel
theorem d_Mp_openEntity_217 : decode b_Mp_openEntity 217 = .ok (.iload 5, 2) := by decide +kernel
theorem d_Mp_openEntity_219 : decode b_Mp_openEntity 219 = .ok (.iload 4, 2) := by decide +kernel
theorem d_Mp_openEntity_221 : decode b_Mp_openEntity 221 = .ok (.iconst 1, 1) := by decide +kernel
theorem d_Mp_openEntity_222 : decode b_Mp_openEntity 222 = .ok (.iadd, 1) := by decide +kernel
theorem d_Mp_openEntity_223 : decode b_Mp_openEntity 223 = .ok (.invokevirtual 122, 3) := by decide +kernel
theorem d_Mp_openEntity_226 : decode b_Mp_openEntity 226 = .ok (.return_, 1) := by decide +kernel
end
section
theorem d_Mo_tell_0 : decode b_Mo_tell 0 = .ok (.aload_n 0, 1) := by decide +kernel
theorem d_Mo_tell_1 : decode b_Mo_tell 1 = .ok (.iload_n 1, 1) := by decide +kernel
theorem d_Mo_tell_2 : decode b_Mo_tell 2 = .ok (.invokevirtual 301, 3) := by decide +kernel
theorem d_Mo_tell_5 : decode b_Mo_tell 5 = .ok (.ifCond .eq 12, 3) := by decide +kernel
theorem d_Mo_tell_8 : decode b_Mo_tell 8 = .ok (.iload_n 2, 1) := by decide +kernel
theorem d_Mo_tell_9 : decode b_Mo_tell 9 = .ok (.ifCond .lt 8, 3) := by decide +kernel
theorem d_Mo_tell_12 : decode b_Mo_tell 12 = .ok (.iload_n 2, 1) := by decide +kernel
theorem d_Mo_tell_13 : decode b_Mo_tell 13 = .ok (.iconst 2, 1) := by decide +kernel
theorem d_Mo_tell_14 : decode b_Mo_tell 14 = .ok (.if_icmp .le 5, 3) := by decide +kernel
theorem d_Mo_tell_17 : decode b_Mo_tell 17 = .ok (.iconst 0, 1) := by decide +kernel
theorem d_Mo_tell_18 : decode b_Mo_tell 18 = .ok (.ireturn, 1) := by decide +kernel
theorem d_Mo_tell_19 : decode b_Mo_tell 19 = .ok (.iload_n 2, 1) := by decide +kernel
theorem d_Mo_tell_20 : decode b_Mo_tell 20 = .ok (.ifCond .ne 11, 3) := by decide +kernel
theorem d_Mo_tell_23 : decode b_Mo_tell 23 = .ok (.aload_n 0, 1) := by decide +kernel
theorem d_Mo_tell_24 : decode b_Mo_tell 24 = .ok (.iload_n 1, 1) := by decide +kernel
theorem d_Mo_tell_25 : decode b_Mo_tell 25 = .ok (.invokevirtual 235, 3) := by decide +kernel
theorem d_Mo_tell_28 : decode b_Mo_tell 28 = .ok (.goto 25, 3) := by decide +kernel
theorem d_Mo_tell_31 : decode b_Mo_tell 31 = .ok (.iload_n 2, 1) := by decide +kernel
theorem d_Mo_tell_32 : decode b_Mo_tell 32 = .ok (.iconst 1, 1) := by decide +kernel
theorem d_Mo_tell_33 : decode b_Mo_tell 33 = .ok (.if_icmp .ne 15, 3) := by decide +kernel
theorem d_Mo_tell_36 : decode b_Mo_tell 36 = .ok (.aload_n 0, 1) := by decide +kernel
theorem d_Mo_tell_37 : decode b_Mo_tell 37 = .ok (.iload_n 1, 1) := by decide +kernel
theorem d_Mo_tell_38 : decode b_Mo_tell 38 = .ok (.aload_n 0, 1) := by decide +kernel
theorem d_Mo_tell_39 : decode b_Mo_tell 39 = .ok (.getfield 13, 3) := by decide +kernel
theorem d_Mo_tell_42 : decode b_Mo_tell 42 = .ok (.invokevirtual 200, 3) := by decide +kernel
theorem d_Mo_tell_45 : decode b_Mo_tell 45 = .ok (.goto 8, 3) := by decide +kernel
theorem d_Mo_tell_48 : decode b_Mo_tell 48 = .ok (.aload_n 0, 1) := by decide +kernel
theorem d_Mo_tell_49 : decode b_Mo_tell 49 = .ok (.iload_n 1, 1) := by decide +kernel
theorem d_Mo_tell_50 : decode b_Mo_tell 50 = .ok (.invokevirtual 313, 3) := by decide +kernel
theorem d_Mo_tell_53 : decode b_Mo_tell 53 = .ok (.iconst 1, 1) := by decide +kernel
theorem d_Mo_tell_54 : decode b_Mo_tell 54 = .ok (.ireturn, 1) := by decide +kernel
theorem d_Mo_length_0 : decode b_Mo_length 0 = .ok (.aload_n 0, 1) := by decide +kernel
theorem d_Mo_length_1 : decode b_Mo_length 1 = .ok (.iload_n 1, 1) := by decide +kernel
theorem d_Mo_length_2 : decode b_Mo_length 2 = .ok (.iload_n 2, 1) := by decide +kernel
theorem d_Mo_length_3 : decode b_Mo_length 3 = .ok (.invokevirtual 316, 3) := by decide +kernel
theorem d_Mo_length_6 : decode b_Mo_length 6 = .ok (.ifCond .eq 10, 3) := by decide +kernel
theorem d_Mo_length_9 : decode b_Mo_length 9 = .ok (.aload_n 0, 1) := by decide +kernel
theorem d_Mo_length_10 : decode b_Mo_length 10 = .ok (.getfield 180, 3) := by decide +kernel
theorem d_Mo_length_13 : decode b_Mo_length 13 = .ok (.goto 4, 3) := by decide +kernel
theorem d_Mo_length_16 : decode b_Mo_length 16 = .ok (.iconst (-1), 1) := by decide +kernel
theorem d_Mo_length_17 : decode b_Mo_length 17 = .ok (.ireturn, 1) := by decide +kernel
theorem d_Mo_at_0 : decode b_Mo_at 0 = .ok (.aload_n 0, 1) := by decide +kernel
theorem d_Mo_at_1 : decode b_Mo_at 1 = .ok (.iload_n 1, 1) := by decide +kernel
theorem d_Mo_at_2 : decode b_Mo_at 2 = .ok (.iload_n 2, 1) := by decide +kernel
theorem d_Mo_at_3 : decode b_Mo_at 3 = .ok (.invokevirtual 316, 3) := by decide +kernel
theorem d_Mo_at_6 : decode b_Mo_at 6 = .ok (.ifCond .eq 28, 3) := by decide +kernel
theorem d_Mo_at_9 : decode b_Mo_at 9 = .ok (.iload_n 3, 1) := by decide +kernel
theorem d_Mo_at_10 : decode b_Mo_at 10 = .ok (.ifCond .lt 24, 3) := by decide +kernel
theorem d_Mo_at_13 : decode b_Mo_at 13 = .ok (.iload_n 3, 1) := by decide +kernel
theorem d_Mo_at_14 : decode b_Mo_at 14 = .ok (.aload_n 0, 1) := by decide +kernel
theorem d_Mo_at_15 : decode b_Mo_at 15 = .ok (.getfield 180, 3) := by decide +kernel
theorem d_Mo_at_18 : decode b_Mo_at 18 = .ok (.if_icmp .ge 16, 3) := by decide +kernel
theorem d_Mo_at_21 : decode b_Mo_at 21 = .ok (.aload_n 0, 1) := by decide +kernel
theorem d_Mo_at_22 : decode b_Mo_at 22 = .ok (.getfield 126, 3) := by decide +kernel
theorem d_Mo_at_25 : decode b_Mo_at 25 = .ok (.iload_n 3, 1) := by decide +kernel
theorem d_Mo_at_26 : decode b_Mo_at 26 = .ok (.baload, 1) := by decide +kernel
theorem d_Mo_at_27 : decode b_Mo_at 27 = .ok (.sipush 255, 3) := by decide +kernel
theorem d_Mo_at_30 : decode b_Mo_at 30 = .ok (.iand, 1) := by decide +kernel
theorem d_Mo_at_31 : decode b_Mo_at 31 = .ok (.goto 4, 3) := by decide +kernel
theorem d_Mo_at_34 : decode b_Mo_at 34 = .ok (.iconst (-1), 1) := by decide +kernel
theorem d_Mo_at_35 : decode b_Mo_at 35 = .ok (.ireturn, 1) := by decide +kernel
theorem d_Mo_ask_0 : decode b_Mo_ask 0 = .ok (.aload_n 0, 1) := by decide +kernel
theorem d_Mo_ask_1 : decode b_Mo_ask 1 = .ok (.getfield 281, 3) := by decide +kernel
theorem d_Mo_ask_4 : decode b_Mo_ask 4 = .ok (.istore_n 1, 1) := by decide +kernel
theorem d_Mo_ask_5 : decode b_Mo_ask 5 = .ok (.iconst 0, 1) := by decide +kernel
theorem d_Mo_ask_6 : decode b_Mo_ask 6 = .ok (.istore_n 2, 1) := by decide +kernel
theorem d_Mo_ask_7 : decode b_Mo_ask 7 = .ok (.iload_n 2, 1) := by decide +kernel
theorem d_Mo_ask_8 : decode b_Mo_ask 8 = .ok (.iload_n 1, 1) := by decide +kernel
theorem d_Mo_ask_9 : decode b_Mo_ask 9 = .ok (.if_icmp .ge 24, 3) := by decide +kernel
theorem d_Mo_ask_12 : decode b_Mo_ask 12 = .ok (.aload_n 0, 1) := by decide +kernel
theorem d_Mo_ask_13 : decode b_Mo_ask 13 = .ok (.getfield 132, 3) := by decide +kernel
theorem d_Mo_ask_16 : decode b_Mo_ask 16 = .ok (.iload_n 2, 1) := by decide +kernel
theorem d_Mo_ask_17 : decode b_Mo_ask 17 = .ok (.aload_n 0, 1) := by decide +kernel
theorem d_Mo_ask_18 : decode b_Mo_ask 18 = .ok (.getfield 65, 3) := by decide +kernel
theorem d_Mo_ask_21 : decode b_Mo_ask 21 = .ok (.iload_n 2, 1) := by decide +kernel
theorem d_Mo_ask_22 : decode b_Mo_ask 22 = .ok (.baload, 1) := by decide +kernel
theorem d_Mo_ask_23 : decode b_Mo_ask 23 = .ok (.invokestatic 135, 3) := by decide +kernel
theorem d_Mo_ask_26 : decode b_Mo_ask 26 = .ok (.iastore, 1) := by decide +kernel
theorem d_Mo_ask_27 : decode b_Mo_ask 27 = .ok (.iinc 2 1, 3) := by decide +kernel
theorem d_Mo_ask_30 : decode b_Mo_ask 30 = .ok (.goto (-23), 3) := by decide +kernel
theorem d_Mo_ask_33 : decode b_Mo_ask 33 = .ok (.aload_n 0, 1) := by decide +kernel
theorem d_Mo_ask_34 : decode b_Mo_ask 34 = .ok (.iconst 0, 1) := by decide +kernel
theorem d_Mo_ask_35 : decode b_Mo_ask 35 = .ok (.putfield 281, 3) := by decide +kernel
theorem d_Mo_ask_38 : decode b_Mo_ask 38 = .ok (.iload_n 1, 1) := by decide +kernel
theorem d_Mo_ask_39 : decode b_Mo_ask 39 = .ok (.ireturn, 1) := by decide +kernel
theorem d_Mo_field_0 : decode b_Mo_field 0 = .ok (.aload_n 0, 1) := by decide +kernel
theorem d_Mo_field_1 : decode b_Mo_field 1 = .ok (.invokevirtual 319, 3) := by decide +kernel
theorem d_Mo_field_4 : decode b_Mo_field 4 = .ok (.istore_n 2, 1) := by decide +kernel
theorem d_Mo_field_5 : decode b_Mo_field 5 = .ok (.aload_n 0, 1) := by decide +kernel
theorem d_Mo_field_6 : decode b_Mo_field 6 = .ok (.iload_n 1, 1) := by decide +kernel
theorem d_Mo_field_7 : decode b_Mo_field 7 = .ok (.invokevirtual 301, 3) := by decide +kernel
theorem d_Mo_field_10 : decode b_Mo_field 10 = .ok (.ifCond .eq 16, 3) := by decide +kernel
theorem d_Mo_field_13 : decode b_Mo_field 13 = .ok (.aload_n 0, 1) := by decide +kernel
theorem d_Mo_field_14 : decode b_Mo_field 14 = .ok (.iload_n 1, 1) := by decide +kernel
theorem d_Mo_field_15 : decode b_Mo_field 15 = .ok (.aload_n 0, 1) := by decide +kernel
theorem d_Mo_field_16 : decode b_Mo_field 16 = .ok (.getfield 132, 3) := by decide +kernel
theorem d_Mo_field_19 : decode b_Mo_field 19 = .ok (.iload_n 2, 1) := by decide +kernel
theorem d_Mo_field_20 : decode b_Mo_field 20 = .ok (.invokevirtual 186, 3) := by decide +kernel
theorem d_Mo_field_23 : decode b_Mo_field 23 = .ok (.ifCond .ne 5, 3) := by decide +kernel
theorem d_Mo_field_26 : decode b_Mo_field 26 = .ok (.iconst (-1), 1) := by decide +kernel
theorem d_Mo_field_27 : decode b_Mo_field 27 = .ok (.ireturn, 1) := by decide +kernel
theorem d_Mo_field_28 : decode b_Mo_field 28 = .ok (.iconst 0, 1) := by decide +kernel
theorem d_Mo_field_29 : decode b_Mo_field 29 = .ok (.istore_n 3, 1) := by decide +kernel
theorem d_Mo_field_30 : decode b_Mo_field 30 = .ok (.iload_n 3, 1) := by decide +kernel
theorem d_Mo_field_31 : decode b_Mo_field 31 = .ok (.aload_n 0, 1) := by decide +kernel
theorem d_Mo_field_32 : decode b_Mo_field 32 = .ok (.getfield 156, 3) := by decide +kernel
theorem d_Mo_field_35 : decode b_Mo_field 35 = .ok (.if_icmp .ge 21, 3) := by decide +kernel
theorem d_Mo_field_38 : decode b_Mo_field 38 = .ok (.aload_n 0, 1) := by decide +kernel
theorem d_Mo_field_39 : decode b_Mo_field 39 = .ok (.getfield 65, 3) := by decide +kernel
theorem d_Mo_field_42 : decode b_Mo_field 42 = .ok (.iload_n 3, 1) := by decide +kernel
theorem d_Mo_field_43 : decode b_Mo_field 43 = .ok (.aload_n 0, 1) := by decide +kernel
theorem d_Mo_field_44 : decode b_Mo_field 44 = .ok (.getfield 117, 3) := by decide +kernel
theorem d_Mo_field_47 : decode b_Mo_field 47 = .ok (.iload_n 3, 1) := by decide +kernel
theorem d_Mo_field_48 : decode b_Mo_field 48 = .ok (.baload, 1) := by decide +kernel
theorem d_Mo_field_49 : decode b_Mo_field 49 = .ok (.bastore, 1) := by decide +kernel
theorem d_Mo_field_50 : decode b_Mo_field 50 = .ok (.iinc 3 1, 3) := by decide +kernel
theorem d_Mo_field_53 : decode b_Mo_field 53 = .ok (.goto (-23), 3) := by decide +kernel
theorem d_Mo_field_56 : decode b_Mo_field 56 = .ok (.aload_n 0, 1) := by decide +kernel
theorem d_Mo_field_57 : decode b_Mo_field 57 = .ok (.aload_n 0, 1) := by decide +kernel
theorem d_Mo_field_58 : decode b_Mo_field 58 = .ok (.getfield 156, 3) := by decide +kernel
theorem d_Mo_field_61 : decode b_Mo_field 61 = .ok (.putfield 281, 3) := by decide +kernel
theorem d_Mo_field_64 : decode b_Mo_field 64 = .ok (.aload_n 0, 1) := by decide +kernel
theorem d_Mo_field_65 : decode b_Mo_field 65 = .ok (.getfield 281, 3) := by decide +kernel
theorem d_Mo_field_68 : decode b_Mo_field 68 = .ok (.ireturn, 1) := by decide +kernel
theorem d_Mo_parameter_0 : decode b_Mo_parameter 0 = .ok (.aload_n 0, 1) := by decide +kernel
theorem d_Mo_parameter_1 : decode b_Mo_parameter 1 = .ok (.invokevirtual 319, 3) := by decide +kernel
theorem d_Mo_parameter_4 : decode b_Mo_parameter 4 = .ok (.istore_n 2, 1) := by decide +kernel
theorem d_Mo_parameter_5 : decode b_Mo_parameter 5 = .ok (.aload_n 0, 1) := by decide +kernel
theorem d_Mo_parameter_6 : decode b_Mo_parameter 6 = .ok (.iload_n 1, 1) := by decide +kernel
theorem d_Mo_parameter_7 : decode b_Mo_parameter 7 = .ok (.invokevirtual 301, 3) := by decide +kernel
theorem d_Mo_parameter_10 : decode b_Mo_parameter 10 = .ok (.ifCond .eq 32, 3) := by decide +kernel
theorem d_Mo_parameter_13 : decode b_Mo_parameter 13 = .ok (.aload_n 0, 1) := by decide +kernel
theorem d_Mo_parameter_14 : decode b_Mo_parameter 14 = .ok (.iload_n 1, 1) := by decide +kernel
theorem d_Mo_parameter_15 : decode b_Mo_parameter 15 = .ok (.aload_n 0, 1) := by decide +kernel
theorem d_Mo_parameter_16 : decode b_Mo_parameter 16 = .ok (.getfield 7, 3) := by decide +kernel
theorem d_Mo_parameter_19 : decode b_Mo_parameter 19 = .ok (.aload_n 0, 1) := by decide +kernel
theorem d_Mo_parameter_20 : decode b_Mo_parameter 20 = .ok (.getfield 7, 3) := by decide +kernel
theorem d_Mo_parameter_23 : decode b_Mo_parameter 23 = .ok (.arraylength, 1) := by decide +kernel
theorem d_Mo_parameter_24 : decode b_Mo_parameter 24 = .ok (.invokevirtual 186, 3) := by decide +kernel
theorem d_Mo_parameter_27 : decode b_Mo_parameter 27 = .ok (.ifCond .eq 15, 3) := by decide +kernel
theorem d_Mo_parameter_30 : decode b_Mo_parameter 30 = .ok (.aload_n 0, 1) := by decide +kernel
theorem d_Mo_parameter_31 : decode b_Mo_parameter 31 = .ok (.aload_n 0, 1) := by decide +kernel
theorem d_Mo_parameter_32 : decode b_Mo_parameter 32 = .ok (.getfield 132, 3) := by decide +kernel
theorem d_Mo_parameter_35 : decode b_Mo_parameter 35 = .ok (.iload_n 2, 1) := by decide +kernel
theorem d_Mo_parameter_36 : decode b_Mo_parameter 36 = .ok (.invokevirtual 216, 3) := by decide +kernel
theorem d_Mo_parameter_39 : decode b_Mo_parameter 39 = .ok (.ifCond .ne 5, 3) := by decide +kernel
theorem d_Mo_parameter_42 : decode b_Mo_parameter 42 = .ok (.iconst (-1), 1) := by decide +kernel
theorem d_Mo_parameter_43 : decode b_Mo_parameter 43 = .ok (.ireturn, 1) := by decide +kernel
theorem d_Mo_parameter_44 : decode b_Mo_parameter 44 = .ok (.iconst 0, 1) := by decide +kernel
theorem d_Mo_parameter_45 : decode b_Mo_parameter 45 = .ok (.istore_n 3, 1) := by decide +kernel
theorem d_Mo_parameter_46 : decode b_Mo_parameter 46 = .ok (.iload_n 3, 1) := by decide +kernel
theorem d_Mo_parameter_47 : decode b_Mo_parameter 47 = .ok (.aload_n 0, 1) := by decide +kernel
theorem d_Mo_parameter_48 : decode b_Mo_parameter 48 = .ok (.getfield 180, 3) := by decide +kernel
theorem d_Mo_parameter_51 : decode b_Mo_parameter 51 = .ok (.if_icmp .ge 21, 3) := by decide +kernel
theorem d_Mo_parameter_54 : decode b_Mo_parameter 54 = .ok (.aload_n 0, 1) := by decide +kernel
theorem d_Mo_parameter_55 : decode b_Mo_parameter 55 = .ok (.getfield 65, 3) := by decide +kernel
theorem d_Mo_parameter_58 : decode b_Mo_parameter 58 = .ok (.iload_n 3, 1) := by decide +kernel
theorem d_Mo_parameter_59 : decode b_Mo_parameter 59 = .ok (.aload_n 0, 1) := by decide +kernel
theorem d_Mo_parameter_60 : decode b_Mo_parameter 60 = .ok (.getfield 126, 3) := by decide +kernel
theorem d_Mo_parameter_63 : decode b_Mo_parameter 63 = .ok (.iload_n 3, 1) := by decide +kernel
theorem d_Mo_parameter_64 : decode b_Mo_parameter 64 = .ok (.baload, 1) := by decide +kernel
theorem d_Mo_parameter_65 : decode b_Mo_parameter 65 = .ok (.bastore, 1) := by decide +kernel
theorem d_Mo_parameter_66 : decode b_Mo_parameter 66 = .ok (.iinc 3 1, 3) := by decide +kernel
theorem d_Mo_parameter_69 : decode b_Mo_parameter 69 = .ok (.goto (-23), 3) := by decide +kernel
theorem d_Mo_parameter_72 : decode b_Mo_parameter 72 = .ok (.aload_n 0, 1) := by decide +kernel
theorem d_Mo_parameter_73 : decode b_Mo_parameter 73 = .ok (.aload_n 0, 1) := by decide +kernel
theorem d_Mo_parameter_74 : decode b_Mo_parameter 74 = .ok (.getfield 180, 3) := by decide +kernel
theorem d_Mo_parameter_77 : decode b_Mo_parameter 77 = .ok (.putfield 281, 3) := by decide +kernel
theorem d_Mo_parameter_80 : decode b_Mo_parameter 80 = .ok (.aload_n 0, 1) := by decide +kernel
theorem d_Mo_parameter_81 : decode b_Mo_parameter 81 = .ok (.getfield 281, 3) := by decide +kernel
theorem d_Mo_parameter_84 : decode b_Mo_parameter 84 = .ok (.ireturn, 1) := by decide +kernel
theorem d_Mo_byteAt_0 : decode b_Mo_byteAt 0 = .ok (.iload_n 1, 1) := by decide +kernel
theorem d_Mo_byteAt_1 : decode b_Mo_byteAt 1 = .ok (.ifCond .lt 24, 3) := by decide +kernel
theorem d_Mo_byteAt_4 : decode b_Mo_byteAt 4 = .ok (.iload_n 1, 1) := by decide +kernel
theorem d_Mo_byteAt_5 : decode b_Mo_byteAt 5 = .ok (.aload_n 0, 1) := by decide +kernel
theorem d_Mo_byteAt_6 : decode b_Mo_byteAt 6 = .ok (.getfield 281, 3) := by decide +kernel
theorem d_Mo_byteAt_9 : decode b_Mo_byteAt 9 = .ok (.if_icmp .ge 16, 3) := by decide +kernel
theorem d_Mo_byteAt_12 : decode b_Mo_byteAt 12 = .ok (.aload_n 0, 1) := by decide +kernel
theorem d_Mo_byteAt_13 : decode b_Mo_byteAt 13 = .ok (.getfield 65, 3) := by decide +kernel
theorem d_Mo_byteAt_16 : decode b_Mo_byteAt 16 = .ok (.iload_n 1, 1) := by decide +kernel
theorem d_Mo_byteAt_17 : decode b_Mo_byteAt 17 = .ok (.baload, 1) := by decide +kernel
theorem d_Mo_byteAt_18 : decode b_Mo_byteAt 18 = .ok (.sipush 255, 3) := by decide +kernel
theorem d_Mo_byteAt_21 : decode b_Mo_byteAt 21 = .ok (.iand, 1) := by decide +kernel
theorem d_Mo_byteAt_22 : decode b_Mo_byteAt 22 = .ok (.goto 4, 3) := by decide +kernel
theorem d_Mo_byteAt_25 : decode b_Mo_byteAt 25 = .ok (.iconst (-1), 1) := by decide +kernel
theorem d_Mo_byteAt_26 : decode b_Mo_byteAt 26 = .ok (.ireturn, 1) := by decide +kernel
theorem d_Mo_isListed_0 : decode b_Mo_isListed 0 = .ok (.iload_n 2, 1) := by decide +kernel
theorem d_Mo_isListed_1 : decode b_Mo_isListed 1 = .ok (.ifCond .eq 11, 3) := by decide +kernel
theorem d_Mo_isListed_4 : decode b_Mo_isListed 4 = .ok (.aload_n 0, 1) := by decide +kernel
theorem d_Mo_isListed_5 : decode b_Mo_isListed 5 = .ok (.iload_n 1, 1) := by decide +kernel
theorem d_Mo_isListed_6 : decode b_Mo_isListed 6 = .ok (.invokevirtual 323, 3) := by decide +kernel
theorem d_Mo_isListed_9 : decode b_Mo_isListed 9 = .ok (.goto 21, 3) := by decide +kernel
theorem d_Mo_isListed_12 : decode b_Mo_isListed 12 = .ok (.aload_n 0, 1) := by decide +kernel
theorem d_Mo_isListed_13 : decode b_Mo_isListed 13 = .ok (.getfield 278, 3) := by decide +kernel
theorem d_Mo_isListed_16 : decode b_Mo_isListed 16 = .ok (.iload_n 1, 1) := by decide +kernel
theorem d_Mo_isListed_17 : decode b_Mo_isListed 17 = .ok (.lshr, 1) := by decide +kernel
theorem d_Mo_isListed_18 : decode b_Mo_isListed 18 = .ok (.lconst 1, 1) := by decide +kernel
theorem d_Mo_isListed_19 : decode b_Mo_isListed 19 = .ok (.land, 1) := by decide +kernel
theorem d_Mo_isListed_20 : decode b_Mo_isListed 20 = .ok (.lconst 1, 1) := by decide +kernel
theorem d_Mo_isListed_21 : decode b_Mo_isListed 21 = .ok (.lcmp, 1) := by decide +kernel
theorem d_Mo_isListed_22 : decode b_Mo_isListed 22 = .ok (.ifCond .ne 7, 3) := by decide +kernel
theorem d_Mo_isListed_25 : decode b_Mo_isListed 25 = .ok (.iconst 1, 1) := by decide +kernel
theorem d_Mo_isListed_26 : decode b_Mo_isListed 26 = .ok (.goto 4, 3) := by decide +kernel
theorem d_Mo_isListed_29 : decode b_Mo_isListed 29 = .ok (.iconst 0, 1) := by decide +kernel
theorem d_Mo_isListed_30 : decode b_Mo_isListed 30 = .ok (.ireturn, 1) := by decide +kernel
theorem d_Mo_text_0 : decode b_Mo_text 0 = .ok (.iload_n 2, 1) := by decide +kernel
theorem d_Mo_text_1 : decode b_Mo_text 1 = .ok (.istore_n 3, 1) := by decide +kernel
theorem d_Mo_text_2 : decode b_Mo_text 2 = .ok (.iconst 0, 1) := by decide +kernel
theorem d_Mo_text_3 : decode b_Mo_text 3 = .ok (.istore 4, 2) := by decide +kernel
theorem d_Mo_text_5 : decode b_Mo_text 5 = .ok (.iload 4, 2) := by decide +kernel
theorem d_Mo_text_7 : decode b_Mo_text 7 = .ok (.aload_n 0, 1) := by decide +kernel
theorem d_Mo_text_8 : decode b_Mo_text 8 = .ok (.getfield 258, 3) := by decide +kernel
theorem d_Mo_text_11 : decode b_Mo_text 11 = .ok (.if_icmp .ge 43, 3) := by decide +kernel
theorem d_Mo_text_14 : decode b_Mo_text 14 = .ok (.aload_n 0, 1) := by decide +kernel
theorem d_Mo_text_15 : decode b_Mo_text 15 = .ok (.getfield 284, 3) := by decide +kernel
theorem d_Mo_text_18 : decode b_Mo_text 18 = .ok (.ifCond .eq 36, 3) := by decide +kernel
theorem d_Mo_text_21 : decode b_Mo_text 21 = .ok (.iload_n 2, 1) := by decide +kernel
theorem d_Mo_text_22 : decode b_Mo_text 22 = .ok (.ifCond .lt 32, 3) := by decide +kernel
theorem d_Mo_text_25 : decode b_Mo_text 25 = .ok (.aload_n 0, 1) := by decide +kernel
theorem d_Mo_text_26 : decode b_Mo_text 26 = .ok (.iload 4, 2) := by decide +kernel
theorem d_Mo_text_28 : decode b_Mo_text 28 = .ok (.iload_n 1, 1) := by decide +kernel
theorem d_Mo_text_29 : decode b_Mo_text 29 = .ok (.invokevirtual 326, 3) := by decide +kernel
theorem d_Mo_text_32 : decode b_Mo_text 32 = .ok (.ifCond .ne 6, 3) := by decide +kernel
theorem d_Mo_text_35 : decode b_Mo_text 35 = .ok (.goto 13, 3) := by decide +kernel
theorem d_Mo_text_38 : decode b_Mo_text 38 = .ok (.iload_n 3, 1) := by decide +kernel
theorem d_Mo_text_39 : decode b_Mo_text 39 = .ok (.ifCond .ne 6, 3) := by decide +kernel
theorem d_Mo_text_42 : decode b_Mo_text 42 = .ok (.iload 4, 2) := by decide +kernel
theorem d_Mo_text_44 : decode b_Mo_text 44 = .ok (.ireturn, 1) := by decide +kernel
theorem d_Mo_text_45 : decode b_Mo_text 45 = .ok (.iinc 3 (-1), 3) := by decide +kernel
theorem d_Mo_text_48 : decode b_Mo_text 48 = .ok (.iinc 4 1, 3) := by decide +kernel
theorem d_Mo_text_51 : decode b_Mo_text 51 = .ok (.goto (-46), 3) := by decide +kernel
theorem d_Mo_text_54 : decode b_Mo_text 54 = .ok (.iconst (-1), 1) := by decide +kernel
theorem d_Mo_text_55 : decode b_Mo_text 55 = .ok (.ireturn, 1) := by decide +kernel
theorem d_Mo_body_0 : decode b_Mo_body 0 = .ok (.aload_n 0, 1) := by decide +kernel
theorem d_Mo_body_1 : decode b_Mo_body 1 = .ok (.iload_n 1, 1) := by decide +kernel
theorem d_Mo_body_2 : decode b_Mo_body 2 = .ok (.invokevirtual 301, 3) := by decide +kernel
theorem d_Mo_body_5 : decode b_Mo_body 5 = .ok (.ifCond .ne 5, 3) := by decide +kernel
theorem d_Mo_body_8 : decode b_Mo_body 8 = .ok (.iconst (-1), 1) := by decide +kernel
theorem d_Mo_body_9 : decode b_Mo_body 9 = .ok (.ireturn, 1) := by decide +kernel
theorem d_Mo_body_10 : decode b_Mo_body 10 = .ok (.iconst 0, 1) := by decide +kernel
theorem d_Mo_body_11 : decode b_Mo_body 11 = .ok (.istore_n 3, 1) := by decide +kernel
theorem d_Mo_body_12 : decode b_Mo_body 12 = .ok (.aload_n 0, 1) := by decide +kernel
theorem d_Mo_body_13 : decode b_Mo_body 13 = .ok (.getfield 86, 3) := by decide +kernel
theorem d_Mo_body_16 : decode b_Mo_body 16 = .ok (.iload_n 1, 1) := by decide +kernel
theorem d_Mo_body_17 : decode b_Mo_body 17 = .ok (.iaload, 1) := by decide +kernel
theorem d_Mo_body_18 : decode b_Mo_body 18 = .ok (.istore 4, 2) := by decide +kernel
theorem d_Mo_body_20 : decode b_Mo_body 20 = .ok (.iload 4, 2) := by decide +kernel
theorem d_Mo_body_22 : decode b_Mo_body 22 = .ok (.aload_n 0, 1) := by decide +kernel
theorem d_Mo_body_23 : decode b_Mo_body 23 = .ok (.getfield 80, 3) := by decide +kernel
theorem d_Mo_body_26 : decode b_Mo_body 26 = .ok (.iload_n 1, 1) := by decide +kernel
theorem d_Mo_body_27 : decode b_Mo_body 27 = .ok (.iaload, 1) := by decide +kernel
theorem d_Mo_body_28 : decode b_Mo_body 28 = .ok (.if_icmp .ge 44, 3) := by decide +kernel
theorem d_Mo_body_31 : decode b_Mo_body 31 = .ok (.iload_n 3, 1) := by decide +kernel
theorem d_Mo_body_32 : decode b_Mo_body 32 = .ok (.aload_n 0, 1) := by decide +kernel
theorem d_Mo_body_33 : decode b_Mo_body 33 = .ok (.getfield 74, 3) := by decide +kernel
theorem d_Mo_body_36 : decode b_Mo_body 36 = .ok (.iload 4, 2) := by decide +kernel
theorem d_Mo_body_38 : decode b_Mo_body 38 = .ok (.iaload, 1) := by decide +kernel
theorem d_Mo_body_39 : decode b_Mo_body 39 = .ok (.aload_n 0, 1) := by decide +kernel
theorem d_Mo_body_40 : decode b_Mo_body 40 = .ok (.getfield 71, 3) := by decide +kernel
theorem d_Mo_body_43 : decode b_Mo_body 43 = .ok (.iload 4, 2) := by decide +kernel
theorem d_Mo_body_45 : decode b_Mo_body 45 = .ok (.iaload, 1) := by decide +kernel
theorem d_Mo_body_46 : decode b_Mo_body 46 = .ok (.isub, 1) := by decide +kernel
theorem d_Mo_body_47 : decode b_Mo_body 47 = .ok (.iload 4, 2) := by decide +kernel
theorem d_Mo_body_49 : decode b_Mo_body 49 = .ok (.aload_n 0, 1) := by decide +kernel
theorem d_Mo_body_50 : decode b_Mo_body 50 = .ok (.getfield 86, 3) := by decide +kernel
theorem d_Mo_body_53 : decode b_Mo_body 53 = .ok (.iload_n 1, 1) := by decide +kernel
theorem d_Mo_body_54 : decode b_Mo_body 54 = .ok (.iaload, 1) := by decide +kernel
theorem d_Mo_body_55 : decode b_Mo_body 55 = .ok (.if_icmp .le 7, 3) := by decide +kernel
theorem d_Mo_body_58 : decode b_Mo_body 58 = .ok (.iconst 1, 1) := by decide +kernel
theorem d_Mo_body_59 : decode b_Mo_body 59 = .ok (.goto 4, 3) := by decide +kernel
theorem d_Mo_body_62 : decode b_Mo_body 62 = .ok (.iconst 0, 1) := by decide +kernel
theorem d_Mo_body_63 : decode b_Mo_body 63 = .ok (.iadd, 1) := by decide +kernel
theorem d_Mo_body_64 : decode b_Mo_body 64 = .ok (.iadd, 1) := by decide +kernel
theorem d_Mo_body_65 : decode b_Mo_body 65 = .ok (.istore_n 3, 1) := by decide +kernel
theorem d_Mo_body_66 : decode b_Mo_body 66 = .ok (.iinc 4 1, 3) := by decide +kernel
theorem d_Mo_body_69 : decode b_Mo_body 69 = .ok (.goto (-49), 3) := by decide +kernel
theorem d_Mo_body_72 : decode b_Mo_body 72 = .ok (.iload_n 2, 1) := by decide +kernel
theorem d_Mo_body_73 : decode b_Mo_body 73 = .ok (.ifCond .lt 8, 3) := by decide +kernel
theorem d_Mo_body_76 : decode b_Mo_body 76 = .ok (.iload_n 2, 1) := by decide +kernel
theorem d_Mo_body_77 : decode b_Mo_body 77 = .ok (.iload_n 3, 1) := by decide +kernel
theorem d_Mo_body_78 : decode b_Mo_body 78 = .ok (.if_icmp .le 5, 3) := by decide +kernel
theorem d_Mo_body_81 : decode b_Mo_body 81 = .ok (.iconst (-1), 1) := by decide +kernel
theorem d_Mo_body_82 : decode b_Mo_body 82 = .ok (.ireturn, 1) := by decide +kernel
theorem d_Mo_body_83 : decode b_Mo_body 83 = .ok (.iconst 0, 1) := by decide +kernel
theorem d_Mo_body_84 : decode b_Mo_body 84 = .ok (.istore 4, 2) := by decide +kernel
theorem d_Mo_body_86 : decode b_Mo_body 86 = .ok (.aload_n 0, 1) := by decide +kernel
theorem d_Mo_body_87 : decode b_Mo_body 87 = .ok (.iconst 0, 1) := by decide +kernel
theorem d_Mo_body_88 : decode b_Mo_body 88 = .ok (.putfield 281, 3) := by decide +kernel
theorem d_Mo_body_91 : decode b_Mo_body 91 = .ok (.aload_n 0, 1) := by decide +kernel
theorem d_Mo_body_92 : decode b_Mo_body 92 = .ok (.getfield 86, 3) := by decide +kernel
theorem d_Mo_body_95 : decode b_Mo_body 95 = .ok (.iload_n 1, 1) := by decide +kernel
theorem d_Mo_body_96 : decode b_Mo_body 96 = .ok (.iaload, 1) := by decide +kernel
theorem d_Mo_body_97 : decode b_Mo_body 97 = .ok (.istore 5, 2) := by decide +kernel
theorem d_Mo_body_99 : decode b_Mo_body 99 = .ok (.iload 5, 2) := by decide +kernel
theorem d_Mo_body_101 : decode b_Mo_body 101 = .ok (.aload_n 0, 1) := by decide +kernel
theorem d_Mo_body_102 : decode b_Mo_body 102 = .ok (.getfield 80, 3) := by decide +kernel
theorem d_Mo_body_105 : decode b_Mo_body 105 = .ok (.iload_n 1, 1) := by decide +kernel
theorem d_Mo_body_106 : decode b_Mo_body 106 = .ok (.iaload, 1) := by decide +kernel
theorem d_Mo_body_107 : decode b_Mo_body 107 = .ok (.if_icmp .ge 78, 3) := by decide +kernel
theorem d_Mo_body_110 : decode b_Mo_body 110 = .ok (.iload 5, 2) := by decide +kernel
theorem d_Mo_body_112 : decode b_Mo_body 112 = .ok (.aload_n 0, 1) := by decide +kernel
theorem d_Mo_body_113 : decode b_Mo_body 113 = .ok (.getfield 86, 3) := by decide +kernel
theorem d_Mo_body_116 : decode b_Mo_body 116 = .ok (.iload_n 1, 1) := by decide +kernel
theorem d_Mo_body_117 : decode b_Mo_body 117 = .ok (.iaload, 1) := by decide +kernel
theorem d_Mo_body_118 : decode b_Mo_body 118 = .ok (.if_icmp .le 16, 3) := by decide +kernel
theorem d_Mo_body_121 : decode b_Mo_body 121 = .ok (.aload_n 0, 1) := by decide +kernel
theorem d_Mo_body_122 : decode b_Mo_body 122 = .ok (.iload 4, 2) := by decide +kernel
theorem d_Mo_body_124 : decode b_Mo_body 124 = .ok (.iload_n 2, 1) := by decide +kernel
theorem d_Mo_body_125 : decode b_Mo_body 125 = .ok (.isub, 1) := by decide +kernel
theorem d_Mo_body_126 : decode b_Mo_body 126 = .ok (.bipush 10, 2) := by decide +kernel
theorem d_Mo_body_128 : decode b_Mo_body 128 = .ok (.invokevirtual 330, 3) := by decide +kernel
theorem d_Mo_body_131 : decode b_Mo_body 131 = .ok (.iinc 4 1, 3) := by decide +kernel
theorem d_Mo_body_134 : decode b_Mo_body 134 = .ok (.aload_n 0, 1) := by decide +kernel
theorem d_Mo_body_135 : decode b_Mo_body 135 = .ok (.getfield 71, 3) := by decide +kernel
theorem d_Mo_body_138 : decode b_Mo_body 138 = .ok (.iload 5, 2) := by decide +kernel
theorem d_Mo_body_140 : decode b_Mo_body 140 = .ok (.iaload, 1) := by decide +kernel
theorem d_Mo_body_141 : decode b_Mo_body 141 = .ok (.istore 6, 2) := by decide +kernel
theorem d_Mo_body_143 : decode b_Mo_body 143 = .ok (.iload 6, 2) := by decide +kernel
theorem d_Mo_body_145 : decode b_Mo_body 145 = .ok (.aload_n 0, 1) := by decide +kernel
theorem d_Mo_body_146 : decode b_Mo_body 146 = .ok (.getfield 74, 3) := by decide +kernel
theorem d_Mo_body_149 : decode b_Mo_body 149 = .ok (.iload 5, 2) := by decide +kernel
theorem d_Mo_body_151 : decode b_Mo_body 151 = .ok (.iaload, 1) := by decide +kernel
theorem d_Mo_body_152 : decode b_Mo_body 152 = .ok (.if_icmp .ge 27, 3) := by decide +kernel
theorem d_Mo_body_155 : decode b_Mo_body 155 = .ok (.aload_n 0, 1) := by decide +kernel
theorem d_Mo_body_156 : decode b_Mo_body 156 = .ok (.iload 4, 2) := by decide +kernel
theorem d_Mo_body_158 : decode b_Mo_body 158 = .ok (.iload_n 2, 1) := by decide +kernel
theorem d_Mo_body_159 : decode b_Mo_body 159 = .ok (.isub, 1) := by decide +kernel
theorem d_Mo_body_160 : decode b_Mo_body 160 = .ok (.aload_n 0, 1) := by decide +kernel
theorem d_Mo_body_161 : decode b_Mo_body 161 = .ok (.getfield 68, 3) := by decide +kernel
theorem d_Mo_body_164 : decode b_Mo_body 164 = .ok (.iload 6, 2) := by decide +kernel
theorem d_Mo_body_166 : decode b_Mo_body 166 = .ok (.baload, 1) := by decide +kernel
theorem d_Mo_body_167 : decode b_Mo_body 167 = .ok (.invokevirtual 330, 3) := by decide +kernel
theorem d_Mo_body_170 : decode b_Mo_body 170 = .ok (.iinc 4 1, 3) := by decide +kernel
theorem d_Mo_body_173 : decode b_Mo_body 173 = .ok (.iinc 6 1, 3) := by decide +kernel
theorem d_Mo_body_176 : decode b_Mo_body 176 = .ok (.goto (-33), 3) := by decide +kernel
theorem d_Mo_body_179 : decode b_Mo_body 179 = .ok (.iinc 5 1, 3) := by decide +kernel
theorem d_Mo_body_182 : decode b_Mo_body 182 = .ok (.goto (-83), 3) := by decide +kernel
theorem d_Mo_body_185 : decode b_Mo_body 185 = .ok (.iload_n 3, 1) := by decide +kernel
theorem d_Mo_body_186 : decode b_Mo_body 186 = .ok (.iload_n 2, 1) := by decide +kernel
theorem d_Mo_body_187 : decode b_Mo_body 187 = .ok (.isub, 1) := by decide +kernel
theorem d_Mo_body_188 : decode b_Mo_body 188 = .ok (.ireturn, 1) := by decide +kernel
theorem d_Mo_put_0 : decode b_Mo_put 0 = .ok (.iload_n 1, 1) := by decide +kernel
theorem d_Mo_put_1 : decode b_Mo_put 1 = .ok (.ifCond .lt 10, 3) := by decide +kernel
theorem d_Mo_put_4 : decode b_Mo_put 4 = .ok (.iload_n 1, 1) := by decide +kernel
theorem d_Mo_put_5 : decode b_Mo_put 5 = .ok (.sipush 1500, 3) := by decide +kernel
theorem d_Mo_put_8 : decode b_Mo_put 8 = .ok (.if_icmp .lt 4, 3) := by decide +kernel
theorem d_Mo_put_11 : decode b_Mo_put 11 = .ok (.return_, 1) := by decide +kernel
theorem d_Mo_put_12 : decode b_Mo_put 12 = .ok (.aload_n 0, 1) := by decide +kernel
theorem d_Mo_put_13 : decode b_Mo_put 13 = .ok (.getfield 65, 3) := by decide +kernel
theorem d_Mo_put_16 : decode b_Mo_put 16 = .ok (.iload_n 1, 1) := by decide +kernel
theorem d_Mo_put_17 : decode b_Mo_put 17 = .ok (.iload_n 2, 1) := by decide +kernel
theorem d_Mo_put_18 : decode b_Mo_put 18 = .ok (.i2b, 1) := by decide +kernel
theorem d_Mo_put_19 : decode b_Mo_put 19 = .ok (.bastore, 1) := by decide +kernel
theorem d_Mo_put_20 : decode b_Mo_put 20 = .ok (.aload_n 0, 1) := by decide +kernel
theorem d_Mo_put_21 : decode b_Mo_put 21 = .ok (.iload_n 1, 1) := by decide +kernel
theorem d_Mo_put_22 : decode b_Mo_put 22 = .ok (.iconst 1, 1) := by decide +kernel
theorem d_Mo_put_23 : decode b_Mo_put 23 = .ok (.iadd, 1) := by decide +kernel
theorem d_Mo_put_24 : decode b_Mo_put 24 = .ok (.putfield 281, 3) := by decide +kernel
theorem d_Mo_put_27 : decode b_Mo_put 27 = .ok (.return_, 1) := by decide +kernel
theorem d_Mo_count_0 : decode b_Mo_count 0 = .ok (.iload_n 1, 1) := by decide +kernel
theorem d_Mo_count_1 : decode b_Mo_count 1 = .ok (.ifCond .lt 8, 3) := by decide +kernel
theorem d_Mo_count_4 : decode b_Mo_count 4 = .ok (.iload_n 1, 1) := by decide +kernel
theorem d_Mo_count_5 : decode b_Mo_count 5 = .ok (.iconst 4, 1) := by decide +kernel
theorem d_Mo_count_6 : decode b_Mo_count 6 = .ok (.if_icmp .le 5, 3) := by decide +kernel
theorem d_Mo_count_9 : decode b_Mo_count 9 = .ok (.iconst (-1), 1) := by decide +kernel
theorem d_Mo_count_10 : decode b_Mo_count 10 = .ok (.ireturn, 1) := by decide +kernel
theorem d_Mo_count_11 : decode b_Mo_count 11 = .ok (.aload_n 0, 1) := by decide +kernel
theorem d_Mo_count_12 : decode b_Mo_count 12 = .ok (.getfield 284, 3) := by decide +kernel
theorem d_Mo_count_15 : decode b_Mo_count 15 = .ok (.ifCond .ne 5, 3) := by decide +kernel
theorem d_Mo_count_18 : decode b_Mo_count 18 = .ok (.iconst 0, 1) := by decide +kernel
theorem d_Mo_count_19 : decode b_Mo_count 19 = .ok (.ireturn, 1) := by decide +kernel
theorem d_Mo_count_20 : decode b_Mo_count 20 = .ok (.iconst 0, 1) := by decide +kernel
theorem d_Mo_count_21 : decode b_Mo_count 21 = .ok (.istore_n 2, 1) := by decide +kernel
theorem d_Mo_count_22 : decode b_Mo_count 22 = .ok (.iconst 0, 1) := by decide +kernel
theorem d_Mo_count_23 : decode b_Mo_count 23 = .ok (.istore_n 3, 1) := by decide +kernel
theorem d_Mo_count_24 : decode b_Mo_count 24 = .ok (.iload_n 3, 1) := by decide +kernel
theorem d_Mo_count_25 : decode b_Mo_count 25 = .ok (.aload_n 0, 1) := by decide +kernel
theorem d_Mo_count_26 : decode b_Mo_count 26 = .ok (.getfield 258, 3) := by decide +kernel
theorem d_Mo_count_29 : decode b_Mo_count 29 = .ok (.if_icmp .ge 45, 3) := by decide +kernel
theorem d_Mo_count_32 : decode b_Mo_count 32 = .ok (.iload_n 1, 1) := by decide +kernel
theorem d_Mo_count_33 : decode b_Mo_count 33 = .ok (.iconst 1, 1) := by decide +kernel
theorem d_Mo_count_34 : decode b_Mo_count 34 = .ok (.if_icmp .eq 8, 3) := by decide +kernel
theorem d_Mo_count_37 : decode b_Mo_count 37 = .ok (.iload_n 1, 1) := by decide +kernel
theorem d_Mo_count_38 : decode b_Mo_count 38 = .ok (.iconst 2, 1) := by decide +kernel
theorem d_Mo_count_39 : decode b_Mo_count 39 = .ok (.if_icmp .ne 35, 3) := by decide +kernel
theorem d_Mo_count_42 : decode b_Mo_count 42 = .ok (.iload_n 2, 1) := by decide +kernel
theorem d_Mo_count_43 : decode b_Mo_count 43 = .ok (.aload_n 0, 1) := by decide +kernel
theorem d_Mo_count_44 : decode b_Mo_count 44 = .ok (.iload_n 3, 1) := by decide +kernel
theorem d_Mo_count_45 : decode b_Mo_count 45 = .ok (.iload_n 1, 1) := by decide +kernel
theorem d_Mo_count_46 : decode b_Mo_count 46 = .ok (.iconst 2, 1) := by decide +kernel
theorem d_Mo_count_47 : decode b_Mo_count 47 = .ok (.if_icmp .ne 7, 3) := by decide +kernel
theorem d_Mo_count_50 : decode b_Mo_count 50 = .ok (.iconst 1, 1) := by decide +kernel
theorem d_Mo_count_51 : decode b_Mo_count 51 = .ok (.goto 4, 3) := by decide +kernel
theorem d_Mo_count_54 : decode b_Mo_count 54 = .ok (.iconst 0, 1) := by decide +kernel
theorem d_Mo_count_55 : decode b_Mo_count 55 = .ok (.invokevirtual 326, 3) := by decide +kernel
theorem d_Mo_count_58 : decode b_Mo_count 58 = .ok (.ifCond .eq 7, 3) := by decide +kernel
theorem d_Mo_count_61 : decode b_Mo_count 61 = .ok (.iconst 1, 1) := by decide +kernel
theorem d_Mo_count_62 : decode b_Mo_count 62 = .ok (.goto 4, 3) := by decide +kernel
theorem d_Mo_count_65 : decode b_Mo_count 65 = .ok (.iconst 0, 1) := by decide +kernel
theorem d_Mo_count_66 : decode b_Mo_count 66 = .ok (.iadd, 1) := by decide +kernel
theorem d_Mo_count_67 : decode b_Mo_count 67 = .ok (.istore_n 2, 1) := by decide +kernel
theorem d_Mo_count_68 : decode b_Mo_count 68 = .ok (.iinc 3 1, 3) := by decide +kernel
theorem d_Mo_count_71 : decode b_Mo_count 71 = .ok (.goto (-47), 3) := by decide +kernel
theorem d_Mo_count_74 : decode b_Mo_count 74 = .ok (.iload_n 1, 1) := by decide +kernel
theorem d_Mo_count_75 : decode b_Mo_count 75 = .ok (.ifCond .ne 10, 3) := by decide +kernel
theorem d_Mo_count_78 : decode b_Mo_count 78 = .ok (.aload_n 0, 1) := by decide +kernel
theorem d_Mo_count_79 : decode b_Mo_count 79 = .ok (.getfield 258, 3) := by decide +kernel
theorem d_Mo_count_82 : decode b_Mo_count 82 = .ok (.goto 28, 3) := by decide +kernel
theorem d_Mo_count_85 : decode b_Mo_count 85 = .ok (.iload_n 1, 1) := by decide +kernel
theorem d_Mo_count_86 : decode b_Mo_count 86 = .ok (.iconst 3, 1) := by decide +kernel
theorem d_Mo_count_87 : decode b_Mo_count 87 = .ok (.if_icmp .ne 10, 3) := by decide +kernel
theorem d_Mo_count_90 : decode b_Mo_count 90 = .ok (.aload_n 0, 1) := by decide +kernel
theorem d_Mo_count_91 : decode b_Mo_count 91 = .ok (.getfield 261, 3) := by decide +kernel
theorem d_Mo_count_94 : decode b_Mo_count 94 = .ok (.goto 16, 3) := by decide +kernel
theorem d_Mo_count_97 : decode b_Mo_count 97 = .ok (.iload_n 1, 1) := by decide +kernel
theorem d_Mo_count_98 : decode b_Mo_count 98 = .ok (.iconst 4, 1) := by decide +kernel
theorem d_Mo_count_99 : decode b_Mo_count 99 = .ok (.if_icmp .ne 10, 3) := by decide +kernel
theorem d_Mo_count_102 : decode b_Mo_count 102 = .ok (.aload_n 0, 1) := by decide +kernel
theorem d_Mo_count_103 : decode b_Mo_count 103 = .ok (.getfield 139, 3) := by decide +kernel
theorem d_Mo_count_106 : decode b_Mo_count 106 = .ok (.goto 4, 3) := by decide +kernel
theorem d_Mo_count_109 : decode b_Mo_count 109 = .ok (.iload_n 2, 1) := by decide +kernel
theorem d_Mo_count_110 : decode b_Mo_count 110 = .ok (.ireturn, 1) := by decide +kernel
theorem d_En_init_0 : decode b_En_init 0 = .ok (.aload_n 0, 1) := by decide +kernel
theorem d_En_init_1 : decode b_En_init 1 = .ok (.invokespecial 1, 3) := by decide +kernel
theorem d_En_init_4 : decode b_En_init 4 = .ok (.return_, 1) := by decide +kernel
theorem d_Ma_init_0 : decode b_Ma_init 0 = .ok (.aload_n 0, 1) := by decide +kernel
theorem d_Ma_init_1 : decode b_Ma_init 1 = .ok (.invokespecial 3, 3) := by decide +kernel
theorem d_Ma_init_4 : decode b_Ma_init 4 = .ok (.aload_n 0, 1) := by decide +kernel
theorem d_Ma_init_5 : decode b_Ma_init 5 = .ok (.new 9, 3) := by decide +kernel
theorem d_Ma_init_8 : decode b_Ma_init 8 = .ok (.dup, 1) := by decide +kernel
theorem d_Ma_init_9 : decode b_Ma_init 9 = .ok (.sipush 1500, 3) := by decide +kernel
theorem d_Ma_init_12 : decode b_Ma_init 12 = .ok (.invokespecial 11, 3) := by decide +kernel
theorem d_Ma_init_15 : decode b_Ma_init 15 = .ok (.putfield 14, 3) := by decide +kernel
theorem d_Ma_init_18 : decode b_Ma_init 18 = .ok (.aload_n 0, 1) := by decide +kernel
theorem d_Ma_init_19 : decode b_Ma_init 19 = .ok (.sipush 1500, 3) := by decide +kernel
theorem d_Ma_init_22 : decode b_Ma_init 22 = .ok (.newarray .int, 2) := by decide +kernel
theorem d_Ma_init_24 : decode b_Ma_init 24 = .ok (.putfield 20, 3) := by decide +kernel
theorem d_Ma_init_27 : decode b_Ma_init 27 = .ok (.aload_n 0, 1) := by decide +kernel
theorem d_Ma_init_28 : decode b_Ma_init 28 = .ok (.sipush 1500, 3) := by decide +kernel
theorem d_Ma_init_31 : decode b_Ma_init 31 = .ok (.newarray .int, 2) := by decide +kernel
theorem d_Ma_init_33 : decode b_Ma_init 33 = .ok (.putfield 24, 3) := by decide +kernel
theorem d_Ma_init_36 : decode b_Ma_init 36 = .ok (.aload_n 0, 1) := by decide +kernel
theorem d_Ma_init_37 : decode b_Ma_init 37 = .ok (.iconst 0, 1) := by decide +kernel
theorem d_Ma_init_38 : decode b_Ma_init 38 = .ok (.putfield 27, 3) := by decide +kernel
theorem d_Ma_init_41 : decode b_Ma_init 41 = .ok (.return_, 1) := by decide +kernel
theorem d_Ma_take_0 : decode b_Ma_take 0 = .ok (.aload_n 0, 1) := by decide +kernel
theorem d_Ma_take_1 : decode b_Ma_take 1 = .ok (.getfield 14, 3) := by decide +kernel
theorem d_Ma_take_4 : decode b_Ma_take 4 = .ok (.invokevirtual 31, 3) := by decide +kernel
theorem d_Ma_take_7 : decode b_Ma_take 7 = .ok (.aload_n 0, 1) := by decide +kernel
theorem d_Ma_take_8 : decode b_Ma_take 8 = .ok (.getfield 14, 3) := by decide +kernel
theorem d_Ma_take_11 : decode b_Ma_take 11 = .ok (.aload_n 1, 1) := by decide +kernel
theorem d_Ma_take_12 : decode b_Ma_take 12 = .ok (.iconst 0, 1) := by decide +kernel
theorem d_Ma_take_13 : decode b_Ma_take 13 = .ok (.aload_n 1, 1) := by decide +kernel
theorem d_Ma_take_14 : decode b_Ma_take 14 = .ok (.getfield 34, 3) := by decide +kernel
theorem d_Ma_take_17 : decode b_Ma_take 17 = .ok (.invokevirtual 37, 3) := by decide +kernel
theorem d_Ma_take_20 : decode b_Ma_take 20 = .ok (.aload_n 0, 1) := by decide +kernel
theorem d_Ma_take_21 : decode b_Ma_take 21 = .ok (.iconst 0, 1) := by decide +kernel
theorem d_Ma_take_22 : decode b_Ma_take 22 = .ok (.putfield 27, 3) := by decide +kernel
theorem d_Ma_take_25 : decode b_Ma_take 25 = .ok (.iconst 0, 1) := by decide +kernel
theorem d_Ma_take_26 : decode b_Ma_take 26 = .ok (.istore_n 2, 1) := by decide +kernel
theorem d_Ma_take_27 : decode b_Ma_take 27 = .ok (.iconst 0, 1) := by decide +kernel
theorem d_Ma_take_28 : decode b_Ma_take 28 = .ok (.istore_n 3, 1) := by decide +kernel
theorem d_Ma_take_29 : decode b_Ma_take 29 = .ok (.iload_n 3, 1) := by decide +kernel
theorem d_Ma_take_30 : decode b_Ma_take 30 = .ok (.aload_n 0, 1) := by decide +kernel
theorem d_Ma_take_31 : decode b_Ma_take 31 = .ok (.getfield 14, 3) := by decide +kernel
theorem d_Ma_take_34 : decode b_Ma_take 34 = .ok (.getfield 34, 3) := by decide +kernel
theorem d_Ma_take_37 : decode b_Ma_take 37 = .ok (.if_icmp .ge 58, 3) := by decide +kernel
theorem d_Ma_take_40 : decode b_Ma_take 40 = .ok (.aload_n 0, 1) := by decide +kernel
theorem d_Ma_take_41 : decode b_Ma_take 41 = .ok (.getfield 14, 3) := by decide +kernel
theorem d_Ma_take_44 : decode b_Ma_take 44 = .ok (.iload_n 3, 1) := by decide +kernel
theorem d_Ma_take_45 : decode b_Ma_take 45 = .ok (.invokevirtual 41, 3) := by decide +kernel
theorem d_Ma_take_48 : decode b_Ma_take 48 = .ok (.bipush 10, 2) := by decide +kernel
theorem d_Ma_take_50 : decode b_Ma_take 50 = .ok (.if_icmp .ne 39, 3) := by decide +kernel
theorem d_Ma_take_53 : decode b_Ma_take 53 = .ok (.aload_n 0, 1) := by decide +kernel
theorem d_Ma_take_54 : decode b_Ma_take 54 = .ok (.iload_n 2, 1) := by decide +kernel
theorem d_Ma_take_55 : decode b_Ma_take 55 = .ok (.iload_n 3, 1) := by decide +kernel
theorem d_Ma_take_56 : decode b_Ma_take 56 = .ok (.iload_n 2, 1) := by decide +kernel
theorem d_Ma_take_57 : decode b_Ma_take 57 = .ok (.if_icmp .le 24, 3) := by decide +kernel
theorem d_Ma_take_60 : decode b_Ma_take 60 = .ok (.aload_n 0, 1) := by decide +kernel
theorem d_Ma_take_61 : decode b_Ma_take 61 = .ok (.getfield 14, 3) := by decide +kernel
theorem d_Ma_take_64 : decode b_Ma_take 64 = .ok (.iload_n 3, 1) := by decide +kernel
theorem d_Ma_take_65 : decode b_Ma_take 65 = .ok (.iconst 1, 1) := by decide +kernel
theorem d_Ma_take_66 : decode b_Ma_take 66 = .ok (.isub, 1) := by decide +kernel
theorem d_Ma_take_67 : decode b_Ma_take 67 = .ok (.invokevirtual 41, 3) := by decide +kernel
theorem d_Ma_take_70 : decode b_Ma_take 70 = .ok (.bipush 13, 2) := by decide +kernel
theorem d_Ma_take_72 : decode b_Ma_take 72 = .ok (.if_icmp .ne 9, 3) := by decide +kernel
theorem d_Ma_take_75 : decode b_Ma_take 75 = .ok (.iload_n 3, 1) := by decide +kernel
theorem d_Ma_take_76 : decode b_Ma_take 76 = .ok (.iconst 1, 1) := by decide +kernel
theorem d_Ma_take_77 : decode b_Ma_take 77 = .ok (.isub, 1) := by decide +kernel
theorem d_Ma_take_78 : decode b_Ma_take 78 = .ok (.goto 4, 3) := by decide +kernel
theorem d_Ma_take_81 : decode b_Ma_take 81 = .ok (.iload_n 3, 1) := by decide +kernel
theorem d_Ma_take_82 : decode b_Ma_take 82 = .ok (.invokevirtual 45, 3) := by decide +kernel
theorem d_Ma_take_85 : decode b_Ma_take 85 = .ok (.iload_n 3, 1) := by decide +kernel
theorem d_Ma_take_86 : decode b_Ma_take 86 = .ok (.iconst 1, 1) := by decide +kernel
theorem d_Ma_take_87 : decode b_Ma_take 87 = .ok (.iadd, 1) := by decide +kernel
theorem d_Ma_take_88 : decode b_Ma_take 88 = .ok (.istore_n 2, 1) := by decide +kernel
theorem d_Ma_take_89 : decode b_Ma_take 89 = .ok (.iinc 3 1, 3) := by decide +kernel
theorem d_Ma_take_92 : decode b_Ma_take 92 = .ok (.goto (-63), 3) := by decide +kernel
theorem d_Ma_take_95 : decode b_Ma_take 95 = .ok (.iload_n 2, 1) := by decide +kernel
theorem d_Ma_take_96 : decode b_Ma_take 96 = .ok (.aload_n 0, 1) := by decide +kernel
theorem d_Ma_take_97 : decode b_Ma_take 97 = .ok (.getfield 14, 3) := by decide +kernel
theorem d_Ma_take_100 : decode b_Ma_take 100 = .ok (.getfield 34, 3) := by decide +kernel
theorem d_Ma_take_103 : decode b_Ma_take 103 = .ok (.if_icmp .ge 15, 3) := by decide +kernel
theorem d_Ma_take_106 : decode b_Ma_take 106 = .ok (.aload_n 0, 1) := by decide +kernel
theorem d_Ma_take_107 : decode b_Ma_take 107 = .ok (.iload_n 2, 1) := by decide +kernel
theorem d_Ma_take_108 : decode b_Ma_take 108 = .ok (.aload_n 0, 1) := by decide +kernel
theorem d_Ma_take_109 : decode b_Ma_take 109 = .ok (.getfield 14, 3) := by decide +kernel
theorem d_Ma_take_112 : decode b_Ma_take 112 = .ok (.getfield 34, 3) := by decide +kernel
theorem d_Ma_take_115 : decode b_Ma_take 115 = .ok (.invokevirtual 45, 3) := by decide +kernel
theorem d_Ma_take_118 : decode b_Ma_take 118 = .ok (.return_, 1) := by decide +kernel
theorem d_Ma_addLine_0 : decode b_Ma_addLine 0 = .ok (.aload_n 0, 1) := by decide +kernel
theorem d_Ma_addLine_1 : decode b_Ma_addLine 1 = .ok (.getfield 27, 3) := by decide +kernel
theorem d_Ma_addLine_4 : decode b_Ma_addLine 4 = .ok (.ifCond .lt 57, 3) := by decide +kernel
theorem d_Ma_addLine_7 : decode b_Ma_addLine 7 = .ok (.aload_n 0, 1) := by decide +kernel
theorem d_Ma_addLine_8 : decode b_Ma_addLine 8 = .ok (.getfield 27, 3) := by decide +kernel
theorem d_Ma_addLine_11 : decode b_Ma_addLine 11 = .ok (.aload_n 0, 1) := by decide +kernel
theorem d_Ma_addLine_12 : decode b_Ma_addLine 12 = .ok (.getfield 20, 3) := by decide +kernel
theorem d_Ma_addLine_15 : decode b_Ma_addLine 15 = .ok (.arraylength, 1) := by decide +kernel
theorem d_Ma_addLine_16 : decode b_Ma_addLine 16 = .ok (.if_icmp .ge 45, 3) := by decide +kernel
theorem d_Ma_addLine_19 : decode b_Ma_addLine 19 = .ok (.aload_n 0, 1) := by decide +kernel
theorem d_Ma_addLine_20 : decode b_Ma_addLine 20 = .ok (.getfield 27, 3) := by decide +kernel
theorem d_Ma_addLine_23 : decode b_Ma_addLine 23 = .ok (.aload_n 0, 1) := by decide +kernel
theorem d_Ma_addLine_24 : decode b_Ma_addLine 24 = .ok (.getfield 24, 3) := by decide +kernel
theorem d_Ma_addLine_27 : decode b_Ma_addLine 27 = .ok (.arraylength, 1) := by decide +kernel
theorem d_Ma_addLine_28 : decode b_Ma_addLine 28 = .ok (.if_icmp .ge 33, 3) := by decide +kernel
theorem d_Ma_addLine_31 : decode b_Ma_addLine 31 = .ok (.aload_n 0, 1) := by decide +kernel
theorem d_Ma_addLine_32 : decode b_Ma_addLine 32 = .ok (.getfield 20, 3) := by decide +kernel
theorem d_Ma_addLine_35 : decode b_Ma_addLine 35 = .ok (.aload_n 0, 1) := by decide +kernel
theorem d_Ma_addLine_36 : decode b_Ma_addLine 36 = .ok (.getfield 27, 3) := by decide +kernel
theorem d_Ma_addLine_39 : decode b_Ma_addLine 39 = .ok (.iload_n 1, 1) := by decide +kernel
theorem d_Ma_addLine_40 : decode b_Ma_addLine 40 = .ok (.iastore, 1) := by decide +kernel
theorem d_Ma_addLine_41 : decode b_Ma_addLine 41 = .ok (.aload_n 0, 1) := by decide +kernel
theorem d_Ma_addLine_42 : decode b_Ma_addLine 42 = .ok (.getfield 24, 3) := by decide +kernel
theorem d_Ma_addLine_45 : decode b_Ma_addLine 45 = .ok (.aload_n 0, 1) := by decide +kernel
theorem d_Ma_addLine_46 : decode b_Ma_addLine 46 = .ok (.getfield 27, 3) := by decide +kernel
theorem d_Ma_addLine_49 : decode b_Ma_addLine 49 = .ok (.iload_n 2, 1) := by decide +kernel
theorem d_Ma_addLine_50 : decode b_Ma_addLine 50 = .ok (.iastore, 1) := by decide +kernel
theorem d_Ma_addLine_51 : decode b_Ma_addLine 51 = .ok (.aload_n 0, 1) := by decide +kernel
theorem d_Ma_addLine_52 : decode b_Ma_addLine 52 = .ok (.dup, 1) := by decide +kernel
theorem d_Ma_addLine_53 : decode b_Ma_addLine 53 = .ok (.getfield 27, 3) := by decide +kernel
theorem d_Ma_addLine_56 : decode b_Ma_addLine 56 = .ok (.iconst 1, 1) := by decide +kernel
theorem d_Ma_addLine_57 : decode b_Ma_addLine 57 = .ok (.iadd, 1) := by decide +kernel
theorem d_Ma_addLine_58 : decode b_Ma_addLine 58 = .ok (.putfield 27, 3) := by decide +kernel
theorem d_Ma_addLine_61 : decode b_Ma_addLine 61 = .ok (.return_, 1) := by decide +kernel
theorem d_Ma_startOf_0 : decode b_Ma_startOf 0 = .ok (.iload_n 1, 1) := by decide +kernel
theorem d_Ma_startOf_1 : decode b_Ma_startOf 1 = .ok (.ifCond .lt 29, 3) := by decide +kernel
theorem d_Ma_startOf_4 : decode b_Ma_startOf 4 = .ok (.iload_n 1, 1) := by decide +kernel
theorem d_Ma_startOf_5 : decode b_Ma_startOf 5 = .ok (.aload_n 0, 1) := by decide +kernel
theorem d_Ma_startOf_6 : decode b_Ma_startOf 6 = .ok (.getfield 27, 3) := by decide +kernel
theorem d_Ma_startOf_9 : decode b_Ma_startOf 9 = .ok (.if_icmp .ge 21, 3) := by decide +kernel
theorem d_Ma_startOf_12 : decode b_Ma_startOf 12 = .ok (.iload_n 1, 1) := by decide +kernel
theorem d_Ma_startOf_13 : decode b_Ma_startOf 13 = .ok (.aload_n 0, 1) := by decide +kernel
theorem d_Ma_startOf_14 : decode b_Ma_startOf 14 = .ok (.getfield 20, 3) := by decide +kernel
theorem d_Ma_startOf_17 : decode b_Ma_startOf 17 = .ok (.arraylength, 1) := by decide +kernel
theorem d_Ma_startOf_18 : decode b_Ma_startOf 18 = .ok (.if_icmp .ge 12, 3) := by decide +kernel
theorem d_Ma_startOf_21 : decode b_Ma_startOf 21 = .ok (.aload_n 0, 1) := by decide +kernel
theorem d_Ma_startOf_22 : decode b_Ma_startOf 22 = .ok (.getfield 20, 3) := by decide +kernel
theorem d_Ma_startOf_25 : decode b_Ma_startOf 25 = .ok (.iload_n 1, 1) := by decide +kernel
theorem d_Ma_startOf_26 : decode b_Ma_startOf 26 = .ok (.iaload, 1) := by decide +kernel
theorem d_Ma_startOf_27 : decode b_Ma_startOf 27 = .ok (.goto 10, 3) := by decide +kernel
theorem d_Ma_startOf_30 : decode b_Ma_startOf 30 = .ok (.aload_n 0, 1) := by decide +kernel
theorem d_Ma_startOf_31 : decode b_Ma_startOf 31 = .ok (.getfield 14, 3) := by decide +kernel
theorem d_Ma_startOf_34 : decode b_Ma_startOf 34 = .ok (.getfield 34, 3) := by decide +kernel
theorem d_Ma_startOf_37 : decode b_Ma_startOf 37 = .ok (.ireturn, 1) := by decide +kernel
theorem d_Ma_stopOf_0 : decode b_Ma_stopOf 0 = .ok (.iload_n 1, 1) := by decide +kernel
theorem d_Ma_stopOf_1 : decode b_Ma_stopOf 1 = .ok (.ifCond .lt 29, 3) := by decide +kernel
theorem d_Ma_stopOf_4 : decode b_Ma_stopOf 4 = .ok (.iload_n 1, 1) := by decide +kernel
theorem d_Ma_stopOf_5 : decode b_Ma_stopOf 5 = .ok (.aload_n 0, 1) := by decide +kernel
theorem d_Ma_stopOf_6 : decode b_Ma_stopOf 6 = .ok (.getfield 27, 3) := by decide +kernel
theorem d_Ma_stopOf_9 : decode b_Ma_stopOf 9 = .ok (.if_icmp .ge 21, 3) := by decide +kernel
theorem d_Ma_stopOf_12 : decode b_Ma_stopOf 12 = .ok (.iload_n 1, 1) := by decide +kernel
theorem d_Ma_stopOf_13 : decode b_Ma_stopOf 13 = .ok (.aload_n 0, 1) := by decide +kernel
theorem d_Ma_stopOf_14 : decode b_Ma_stopOf 14 = .ok (.getfield 24, 3) := by decide +kernel
theorem d_Ma_stopOf_17 : decode b_Ma_stopOf 17 = .ok (.arraylength, 1) := by decide +kernel
theorem d_Ma_stopOf_18 : decode b_Ma_stopOf 18 = .ok (.if_icmp .ge 12, 3) := by decide +kernel
theorem d_Ma_stopOf_21 : decode b_Ma_stopOf 21 = .ok (.aload_n 0, 1) := by decide +kernel
theorem d_Ma_stopOf_22 : decode b_Ma_stopOf 22 = .ok (.getfield 24, 3) := by decide +kernel
theorem d_Ma_stopOf_25 : decode b_Ma_stopOf 25 = .ok (.iload_n 1, 1) := by decide +kernel
theorem d_Ma_stopOf_26 : decode b_Ma_stopOf 26 = .ok (.iaload, 1) := by decide +kernel
theorem d_Ma_stopOf_27 : decode b_Ma_stopOf 27 = .ok (.goto 10, 3) := by decide +kernel
theorem d_Ma_stopOf_30 : decode b_Ma_stopOf 30 = .ok (.aload_n 0, 1) := by decide +kernel
theorem d_Ma_stopOf_31 : decode b_Ma_stopOf 31 = .ok (.getfield 14, 3) := by decide +kernel
theorem d_Ma_stopOf_34 : decode b_Ma_stopOf 34 = .ok (.getfield 34, 3) := by decide +kernel
theorem d_Ma_stopOf_37 : decode b_Ma_stopOf 37 = .ok (.ireturn, 1) := by decide +kernel
theorem d_Ma_isEmptyLine_0 : decode b_Ma_isEmptyLine 0 = .ok (.aload_n 0, 1) := by decide +kernel
theorem d_Ma_isEmptyLine_1 : decode b_Ma_isEmptyLine 1 = .ok (.iload_n 1, 1) := by decide +kernel
theorem d_Ma_isEmptyLine_2 : decode b_Ma_isEmptyLine 2 = .ok (.invokevirtual 49, 3) := by decide +kernel
theorem d_Ma_isEmptyLine_5 : decode b_Ma_isEmptyLine 5 = .ok (.aload_n 0, 1) := by decide +kernel
theorem d_Ma_isEmptyLine_6 : decode b_Ma_isEmptyLine 6 = .ok (.iload_n 1, 1) := by decide +kernel
theorem d_Ma_isEmptyLine_7 : decode b_Ma_isEmptyLine 7 = .ok (.invokevirtual 52, 3) := by decide +kernel
theorem d_Ma_isEmptyLine_10 : decode b_Ma_isEmptyLine 10 = .ok (.if_icmp .lt 7, 3) := by decide +kernel
theorem d_Ma_isEmptyLine_13 : decode b_Ma_isEmptyLine 13 = .ok (.iconst 1, 1) := by decide +kernel
theorem d_Ma_isEmptyLine_14 : decode b_Ma_isEmptyLine 14 = .ok (.goto 4, 3) := by decide +kernel
theorem d_Ma_isEmptyLine_17 : decode b_Ma_isEmptyLine 17 = .ok (.iconst 0, 1) := by decide +kernel
theorem d_Ma_isEmptyLine_18 : decode b_Ma_isEmptyLine 18 = .ok (.ireturn, 1) := by decide +kernel
theorem d_Ma_beginsBlank_0 : decode b_Ma_beginsBlank 0 = .ok (.aload_n 0, 1) := by decide +kernel
theorem d_Ma_beginsBlank_1 : decode b_Ma_beginsBlank 1 = .ok (.getfield 14, 3) := by decide +kernel
theorem d_Ma_beginsBlank_4 : decode b_Ma_beginsBlank 4 = .ok (.aload_n 0, 1) := by decide +kernel
theorem d_Ma_beginsBlank_5 : decode b_Ma_beginsBlank 5 = .ok (.iload_n 1, 1) := by decide +kernel
theorem d_Ma_beginsBlank_6 : decode b_Ma_beginsBlank 6 = .ok (.invokevirtual 49, 3) := by decide +kernel
theorem d_Ma_beginsBlank_9 : decode b_Ma_beginsBlank 9 = .ok (.invokevirtual 41, 3) := by decide +kernel
theorem d_Ma_beginsBlank_12 : decode b_Ma_beginsBlank 12 = .ok (.invokestatic 55, 3) := by decide +kernel
theorem d_Ma_beginsBlank_15 : decode b_Ma_beginsBlank 15 = .ok (.ireturn, 1) := by decide +kernel
theorem d_Ma_colonOf_0 : decode b_Ma_colonOf 0 = .ok (.aload_n 0, 1) := by decide +kernel
theorem d_Ma_colonOf_1 : decode b_Ma_colonOf 1 = .ok (.iload_n 1, 1) := by decide +kernel
theorem d_Ma_colonOf_2 : decode b_Ma_colonOf 2 = .ok (.invokevirtual 49, 3) := by decide +kernel
theorem d_Ma_colonOf_5 : decode b_Ma_colonOf 5 = .ok (.istore_n 2, 1) := by decide +kernel
theorem d_Ma_colonOf_6 : decode b_Ma_colonOf 6 = .ok (.aload_n 0, 1) := by decide +kernel
theorem d_Ma_colonOf_7 : decode b_Ma_colonOf 7 = .ok (.iload_n 1, 1) := by decide +kernel
theorem d_Ma_colonOf_8 : decode b_Ma_colonOf 8 = .ok (.invokevirtual 52, 3) := by decide +kernel
theorem d_Ma_colonOf_11 : decode b_Ma_colonOf 11 = .ok (.istore_n 3, 1) := by decide +kernel
theorem d_Ma_colonOf_12 : decode b_Ma_colonOf 12 = .ok (.iload_n 2, 1) := by decide +kernel
theorem d_Ma_colonOf_13 : decode b_Ma_colonOf 13 = .ok (.istore 4, 2) := by decide +kernel
theorem d_Ma_colonOf_15 : decode b_Ma_colonOf 15 = .ok (.iload 4, 2) := by decide +kernel
theorem d_Ma_colonOf_17 : decode b_Ma_colonOf 17 = .ok (.iload_n 3, 1) := by decide +kernel
theorem d_Ma_colonOf_18 : decode b_Ma_colonOf 18 = .ok (.if_icmp .ge 50, 3) := by decide +kernel
theorem d_Ma_colonOf_21 : decode b_Ma_colonOf 21 = .ok (.aload_n 0, 1) := by decide +kernel
theorem d_Ma_colonOf_22 : decode b_Ma_colonOf 22 = .ok (.getfield 14, 3) := by decide +kernel
theorem d_Ma_colonOf_25 : decode b_Ma_colonOf 25 = .ok (.iload 4, 2) := by decide +kernel
theorem d_Ma_colonOf_27 : decode b_Ma_colonOf 27 = .ok (.invokevirtual 41, 3) := by decide +kernel
theorem d_Ma_colonOf_30 : decode b_Ma_colonOf 30 = .ok (.istore 5, 2) := by decide +kernel
theorem d_Ma_colonOf_32 : decode b_Ma_colonOf 32 = .ok (.iload 5, 2) := by decide +kernel
theorem d_Ma_colonOf_34 : decode b_Ma_colonOf 34 = .ok (.bipush 58, 2) := by decide +kernel
theorem d_Ma_colonOf_36 : decode b_Ma_colonOf 36 = .ok (.if_icmp .ne 16, 3) := by decide +kernel
theorem d_Ma_colonOf_39 : decode b_Ma_colonOf 39 = .ok (.iload 4, 2) := by decide +kernel
theorem d_Ma_colonOf_41 : decode b_Ma_colonOf 41 = .ok (.iload_n 2, 1) := by decide +kernel
theorem d_Ma_colonOf_42 : decode b_Ma_colonOf 42 = .ok (.if_icmp .le 8, 3) := by decide +kernel
theorem d_Ma_colonOf_45 : decode b_Ma_colonOf 45 = .ok (.iload 4, 2) := by decide +kernel
theorem d_Ma_colonOf_47 : decode b_Ma_colonOf 47 = .ok (.goto 4, 3) := by decide +kernel
theorem d_Ma_colonOf_50 : decode b_Ma_colonOf 50 = .ok (.iconst (-1), 1) := by decide +kernel
theorem d_Ma_colonOf_51 : decode b_Ma_colonOf 51 = .ok (.ireturn, 1) := by decide +kernel
theorem d_Ma_colonOf_52 : decode b_Ma_colonOf 52 = .ok (.iload 5, 2) := by decide +kernel
theorem d_Ma_colonOf_54 : decode b_Ma_colonOf 54 = .ok (.invokestatic 59, 3) := by decide +kernel
theorem d_Ma_colonOf_57 : decode b_Ma_colonOf 57 = .ok (.ifCond .ne 5, 3) := by decide +kernel
theorem d_Ma_colonOf_60 : decode b_Ma_colonOf 60 = .ok (.iconst (-1), 1) := by decide +kernel
theorem d_Ma_colonOf_61 : decode b_Ma_colonOf 61 = .ok (.ireturn, 1) := by decide +kernel
theorem d_Ma_colonOf_62 : decode b_Ma_colonOf 62 = .ok (.iinc 4 1, 3) := by decide +kernel
theorem d_Ma_colonOf_65 : decode b_Ma_colonOf 65 = .ok (.goto (-50), 3) := by decide +kernel
theorem d_Ma_colonOf_68 : decode b_Ma_colonOf 68 = .ok (.iconst (-1), 1) := by decide +kernel
theorem d_Ma_colonOf_69 : decode b_Ma_colonOf 69 = .ok (.ireturn, 1) := by decide +kernel
theorem d_Ma_headStop_0 : decode b_Ma_headStop 0 = .ok (.iload_n 1, 1) := by decide +kernel
theorem d_Ma_headStop_1 : decode b_Ma_headStop 1 = .ok (.istore_n 3, 1) := by decide +kernel
theorem d_Ma_headStop_2 : decode b_Ma_headStop 2 = .ok (.iload_n 3, 1) := by decide +kernel
theorem d_Ma_headStop_3 : decode b_Ma_headStop 3 = .ok (.iload_n 2, 1) := by decide +kernel
theorem d_Ma_headStop_4 : decode b_Ma_headStop 4 = .ok (.if_icmp .ge 45, 3) := by decide +kernel
theorem d_Ma_headStop_7 : decode b_Ma_headStop 7 = .ok (.iload_n 3, 1) := by decide +kernel
theorem d_Ma_headStop_8 : decode b_Ma_headStop 8 = .ok (.iload_n 1, 1) := by decide +kernel
theorem d_Ma_headStop_9 : decode b_Ma_headStop 9 = .ok (.if_icmp .le 15, 3) := by decide +kernel
theorem d_Ma_headStop_12 : decode b_Ma_headStop 12 = .ok (.aload_n 0, 1) := by decide +kernel
theorem d_Ma_headStop_13 : decode b_Ma_headStop 13 = .ok (.iload_n 3, 1) := by decide +kernel
theorem d_Ma_headStop_14 : decode b_Ma_headStop 14 = .ok (.invokevirtual 62, 3) := by decide +kernel
theorem d_Ma_headStop_17 : decode b_Ma_headStop 17 = .ok (.ifCond .eq 7, 3) := by decide +kernel
theorem d_Ma_headStop_20 : decode b_Ma_headStop 20 = .ok (.iconst 1, 1) := by decide +kernel
theorem d_Ma_headStop_21 : decode b_Ma_headStop 21 = .ok (.goto 4, 3) := by decide +kernel
theorem d_Ma_headStop_24 : decode b_Ma_headStop 24 = .ok (.iconst 0, 1) := by decide +kernel
theorem d_Ma_headStop_25 : decode b_Ma_headStop 25 = .ok (.istore 4, 2) := by decide +kernel
theorem d_Ma_headStop_27 : decode b_Ma_headStop 27 = .ok (.iload 4, 2) := by decide +kernel
theorem d_Ma_headStop_29 : decode b_Ma_headStop 29 = .ok (.ifCond .ne 14, 3) := by decide +kernel
theorem d_Ma_headStop_32 : decode b_Ma_headStop 32 = .ok (.aload_n 0, 1) := by decide +kernel
theorem d_Ma_headStop_33 : decode b_Ma_headStop 33 = .ok (.iload_n 3, 1) := by decide +kernel
theorem d_Ma_headStop_34 : decode b_Ma_headStop 34 = .ok (.invokevirtual 65, 3) := by decide +kernel
theorem d_Ma_headStop_37 : decode b_Ma_headStop 37 = .ok (.iconst (-1), 1) := by decide +kernel
theorem d_Ma_headStop_38 : decode b_Ma_headStop 38 = .ok (.if_icmp .ne 5, 3) := by decide +kernel
theorem d_Ma_headStop_41 : decode b_Ma_headStop 41 = .ok (.iload_n 3, 1) := by decide +kernel
theorem d_Ma_headStop_42 : decode b_Ma_headStop 42 = .ok (.ireturn, 1) := by decide +kernel
theorem d_Ma_headStop_43 : decode b_Ma_headStop 43 = .ok (.iinc 3 1, 3) := by decide +kernel
theorem d_Ma_headStop_46 : decode b_Ma_headStop 46 = .ok (.goto (-44), 3) := by decide +kernel
theorem d_Ma_headStop_49 : decode b_Ma_headStop 49 = .ok (.iload_n 2, 1) := by decide +kernel
theorem d_Ma_headStop_50 : decode b_Ma_headStop 50 = .ok (.ireturn, 1) := by decide +kernel
end
section
theorem d_Ma_fieldLine_0 : decode b_Ma_fieldLine 0 = .ok (.iload_n 1, 1) := by decide +kernel
theorem d_Ma_fieldLine_1 : decode b_Ma_fieldLine 1 = .ok (.istore 4, 2) := by decide +kernel
theorem d_Ma_fieldLine_3 : decode b_Ma_fieldLine 3 = .ok (.iload 4, 2) := by decide +kernel
theorem d_Ma_fieldLine_5 : decode b_Ma_fieldLine 5 = .ok (.iload_n 2, 1) := by decide +kernel
theorem d_Ma_fieldLine_6 : decode b_Ma_fieldLine 6 = .ok (.if_icmp .ge 67, 3) := by decide +kernel
theorem d_Ma_fieldLine_9 : decode b_Ma_fieldLine 9 = .ok (.aload_n 0, 1) := by decide +kernel
theorem d_Ma_fieldLine_10 : decode b_Ma_fieldLine 10 = .ok (.iload 4, 2) := by decide +kernel
theorem d_Ma_fieldLine_12 : decode b_Ma_fieldLine 12 = .ok (.invokevirtual 49, 3) := by decide +kernel
theorem d_Ma_fieldLine_15 : decode b_Ma_fieldLine 15 = .ok (.istore 5, 2) := by decide +kernel
theorem d_Ma_fieldLine_17 : decode b_Ma_fieldLine 17 = .ok (.iload 5, 2) := by decide +kernel
theorem d_Ma_fieldLine_19 : decode b_Ma_fieldLine 19 = .ok (.aload_n 3, 1) := by decide +kernel
theorem d_Ma_fieldLine_20 : decode b_Ma_fieldLine 20 = .ok (.getfield 34, 3) := by decide +kernel
theorem d_Ma_fieldLine_23 : decode b_Ma_fieldLine 23 = .ok (.iadd, 1) := by decide +kernel
theorem d_Ma_fieldLine_24 : decode b_Ma_fieldLine 24 = .ok (.istore 6, 2) := by decide +kernel
theorem d_Ma_fieldLine_26 : decode b_Ma_fieldLine 26 = .ok (.aload_n 0, 1) := by decide +kernel
theorem d_Ma_fieldLine_27 : decode b_Ma_fieldLine 27 = .ok (.getfield 14, 3) := by decide +kernel
theorem d_Ma_fieldLine_30 : decode b_Ma_fieldLine 30 = .ok (.iload 6, 2) := by decide +kernel
theorem d_Ma_fieldLine_32 : decode b_Ma_fieldLine 32 = .ok (.invokevirtual 41, 3) := by decide +kernel
theorem d_Ma_fieldLine_35 : decode b_Ma_fieldLine 35 = .ok (.bipush 58, 2) := by decide +kernel
theorem d_Ma_fieldLine_37 : decode b_Ma_fieldLine 37 = .ok (.if_icmp .ne 30, 3) := by decide +kernel
theorem d_Ma_fieldLine_40 : decode b_Ma_fieldLine 40 = .ok (.aload_n 0, 1) := by decide +kernel
theorem d_Ma_fieldLine_41 : decode b_Ma_fieldLine 41 = .ok (.getfield 14, 3) := by decide +kernel
theorem d_Ma_fieldLine_44 : decode b_Ma_fieldLine 44 = .ok (.iload 5, 2) := by decide +kernel
theorem d_Ma_fieldLine_46 : decode b_Ma_fieldLine 46 = .ok (.aload_n 3, 1) := by decide +kernel
theorem d_Ma_fieldLine_47 : decode b_Ma_fieldLine 47 = .ok (.invokevirtual 68, 3) := by decide +kernel
theorem d_Ma_fieldLine_50 : decode b_Ma_fieldLine 50 = .ok (.ifCond .eq 17, 3) := by decide +kernel
theorem d_Ma_fieldLine_53 : decode b_Ma_fieldLine 53 = .ok (.aload_n 0, 1) := by decide +kernel
theorem d_Ma_fieldLine_54 : decode b_Ma_fieldLine 54 = .ok (.iload 4, 2) := by decide +kernel
theorem d_Ma_fieldLine_56 : decode b_Ma_fieldLine 56 = .ok (.invokevirtual 65, 3) := by decide +kernel
theorem d_Ma_fieldLine_59 : decode b_Ma_fieldLine 59 = .ok (.iload 6, 2) := by decide +kernel
theorem d_Ma_fieldLine_61 : decode b_Ma_fieldLine 61 = .ok (.if_icmp .ne 6, 3) := by decide +kernel
theorem d_Ma_fieldLine_64 : decode b_Ma_fieldLine 64 = .ok (.iload 4, 2) := by decide +kernel
theorem d_Ma_fieldLine_66 : decode b_Ma_fieldLine 66 = .ok (.ireturn, 1) := by decide +kernel
theorem d_Ma_fieldLine_67 : decode b_Ma_fieldLine 67 = .ok (.iinc 4 1, 3) := by decide +kernel
theorem d_Ma_fieldLine_70 : decode b_Ma_fieldLine 70 = .ok (.goto (-67), 3) := by decide +kernel
theorem d_Ma_fieldLine_73 : decode b_Ma_fieldLine 73 = .ok (.iconst (-1), 1) := by decide +kernel
theorem d_Ma_fieldLine_74 : decode b_Ma_fieldLine 74 = .ok (.ireturn, 1) := by decide +kernel
theorem d_Ma_copyValue_0 : decode b_Ma_copyValue 0 = .ok (.aload_n 3, 1) := by decide +kernel
theorem d_Ma_copyValue_1 : decode b_Ma_copyValue 1 = .ok (.invokevirtual 31, 3) := by decide +kernel
theorem d_Ma_copyValue_4 : decode b_Ma_copyValue 4 = .ok (.aload_n 3, 1) := by decide +kernel
theorem d_Ma_copyValue_5 : decode b_Ma_copyValue 5 = .ok (.aload_n 0, 1) := by decide +kernel
theorem d_Ma_copyValue_6 : decode b_Ma_copyValue 6 = .ok (.getfield 14, 3) := by decide +kernel
theorem d_Ma_copyValue_9 : decode b_Ma_copyValue 9 = .ok (.aload_n 0, 1) := by decide +kernel
theorem d_Ma_copyValue_10 : decode b_Ma_copyValue 10 = .ok (.iload_n 1, 1) := by decide +kernel
theorem d_Ma_copyValue_11 : decode b_Ma_copyValue 11 = .ok (.invokevirtual 65, 3) := by decide +kernel
theorem d_Ma_copyValue_14 : decode b_Ma_copyValue 14 = .ok (.iconst 1, 1) := by decide +kernel
theorem d_Ma_copyValue_15 : decode b_Ma_copyValue 15 = .ok (.iadd, 1) := by decide +kernel
theorem d_Ma_copyValue_16 : decode b_Ma_copyValue 16 = .ok (.aload_n 0, 1) := by decide +kernel
theorem d_Ma_copyValue_17 : decode b_Ma_copyValue 17 = .ok (.iload_n 1, 1) := by decide +kernel
theorem d_Ma_copyValue_18 : decode b_Ma_copyValue 18 = .ok (.invokevirtual 52, 3) := by decide +kernel
theorem d_Ma_copyValue_21 : decode b_Ma_copyValue 21 = .ok (.invokevirtual 37, 3) := by decide +kernel
theorem d_Ma_copyValue_24 : decode b_Ma_copyValue 24 = .ok (.iload_n 1, 1) := by decide +kernel
theorem d_Ma_copyValue_25 : decode b_Ma_copyValue 25 = .ok (.iconst 1, 1) := by decide +kernel
theorem d_Ma_copyValue_26 : decode b_Ma_copyValue 26 = .ok (.iadd, 1) := by decide +kernel
theorem d_Ma_copyValue_27 : decode b_Ma_copyValue 27 = .ok (.istore 4, 2) := by decide +kernel
theorem d_Ma_copyValue_29 : decode b_Ma_copyValue 29 = .ok (.iload 4, 2) := by decide +kernel
theorem d_Ma_copyValue_31 : decode b_Ma_copyValue 31 = .ok (.iload_n 2, 1) := by decide +kernel
theorem d_Ma_copyValue_32 : decode b_Ma_copyValue 32 = .ok (.if_icmp .ge 38, 3) := by decide +kernel
theorem d_Ma_copyValue_35 : decode b_Ma_copyValue 35 = .ok (.aload_n 0, 1) := by decide +kernel
theorem d_Ma_copyValue_36 : decode b_Ma_copyValue 36 = .ok (.iload 4, 2) := by decide +kernel
theorem d_Ma_copyValue_38 : decode b_Ma_copyValue 38 = .ok (.invokevirtual 62, 3) := by decide +kernel
theorem d_Ma_copyValue_41 : decode b_Ma_copyValue 41 = .ok (.ifCond .eq 29, 3) := by decide +kernel
theorem d_Ma_copyValue_44 : decode b_Ma_copyValue 44 = .ok (.aload_n 3, 1) := by decide +kernel
theorem d_Ma_copyValue_45 : decode b_Ma_copyValue 45 = .ok (.aload_n 0, 1) := by decide +kernel
theorem d_Ma_copyValue_46 : decode b_Ma_copyValue 46 = .ok (.getfield 14, 3) := by decide +kernel
theorem d_Ma_copyValue_49 : decode b_Ma_copyValue 49 = .ok (.aload_n 0, 1) := by decide +kernel
theorem d_Ma_copyValue_50 : decode b_Ma_copyValue 50 = .ok (.iload 4, 2) := by decide +kernel
theorem d_Ma_copyValue_52 : decode b_Ma_copyValue 52 = .ok (.invokevirtual 49, 3) := by decide +kernel
theorem d_Ma_copyValue_55 : decode b_Ma_copyValue 55 = .ok (.aload_n 0, 1) := by decide +kernel
theorem d_Ma_copyValue_56 : decode b_Ma_copyValue 56 = .ok (.iload 4, 2) := by decide +kernel
theorem d_Ma_copyValue_58 : decode b_Ma_copyValue 58 = .ok (.invokevirtual 52, 3) := by decide +kernel
theorem d_Ma_copyValue_61 : decode b_Ma_copyValue 61 = .ok (.invokevirtual 37, 3) := by decide +kernel
theorem d_Ma_copyValue_64 : decode b_Ma_copyValue 64 = .ok (.iinc 4 1, 3) := by decide +kernel
theorem d_Ma_copyValue_67 : decode b_Ma_copyValue 67 = .ok (.goto (-38), 3) := by decide +kernel
theorem d_Ma_copyValue_70 : decode b_Ma_copyValue 70 = .ok (.return_, 1) := by decide +kernel
theorem d_Ma_copyLines_0 : decode b_Ma_copyLines 0 = .ok (.aload_n 3, 1) := by decide +kernel
theorem d_Ma_copyLines_1 : decode b_Ma_copyLines 1 = .ok (.invokevirtual 31, 3) := by decide +kernel
theorem d_Ma_copyLines_4 : decode b_Ma_copyLines 4 = .ok (.iload_n 1, 1) := by decide +kernel
theorem d_Ma_copyLines_5 : decode b_Ma_copyLines 5 = .ok (.istore 4, 2) := by decide +kernel
theorem d_Ma_copyLines_7 : decode b_Ma_copyLines 7 = .ok (.iload 4, 2) := by decide +kernel
theorem d_Ma_copyLines_9 : decode b_Ma_copyLines 9 = .ok (.iload_n 2, 1) := by decide +kernel
theorem d_Ma_copyLines_10 : decode b_Ma_copyLines 10 = .ok (.if_icmp .ge 41, 3) := by decide +kernel
theorem d_Ma_copyLines_13 : decode b_Ma_copyLines 13 = .ok (.iload 4, 2) := by decide +kernel
theorem d_Ma_copyLines_15 : decode b_Ma_copyLines 15 = .ok (.iload_n 1, 1) := by decide +kernel
theorem d_Ma_copyLines_16 : decode b_Ma_copyLines 16 = .ok (.if_icmp .le 9, 3) := by decide +kernel
theorem d_Ma_copyLines_19 : decode b_Ma_copyLines 19 = .ok (.aload_n 3, 1) := by decide +kernel
theorem d_Ma_copyLines_20 : decode b_Ma_copyLines 20 = .ok (.bipush 10, 2) := by decide +kernel
theorem d_Ma_copyLines_22 : decode b_Ma_copyLines 22 = .ok (.invokevirtual 72, 3) := by decide +kernel
theorem d_Ma_copyLines_25 : decode b_Ma_copyLines 25 = .ok (.aload_n 3, 1) := by decide +kernel
theorem d_Ma_copyLines_26 : decode b_Ma_copyLines 26 = .ok (.aload_n 0, 1) := by decide +kernel
theorem d_Ma_copyLines_27 : decode b_Ma_copyLines 27 = .ok (.getfield 14, 3) := by decide +kernel
theorem d_Ma_copyLines_30 : decode b_Ma_copyLines 30 = .ok (.aload_n 0, 1) := by decide +kernel
theorem d_Ma_copyLines_31 : decode b_Ma_copyLines 31 = .ok (.iload 4, 2) := by decide +kernel
theorem d_Ma_copyLines_33 : decode b_Ma_copyLines 33 = .ok (.invokevirtual 49, 3) := by decide +kernel
theorem d_Ma_copyLines_36 : decode b_Ma_copyLines 36 = .ok (.aload_n 0, 1) := by decide +kernel
theorem d_Ma_copyLines_37 : decode b_Ma_copyLines 37 = .ok (.iload 4, 2) := by decide +kernel
theorem d_Ma_copyLines_39 : decode b_Ma_copyLines 39 = .ok (.invokevirtual 52, 3) := by decide +kernel
theorem d_Ma_copyLines_42 : decode b_Ma_copyLines 42 = .ok (.invokevirtual 37, 3) := by decide +kernel
theorem d_Ma_copyLines_45 : decode b_Ma_copyLines 45 = .ok (.iinc 4 1, 3) := by decide +kernel
theorem d_Ma_copyLines_48 : decode b_Ma_copyLines 48 = .ok (.goto (-41), 3) := by decide +kernel
theorem d_Ma_copyLines_51 : decode b_Ma_copyLines 51 = .ok (.return_, 1) := by decide +kernel
theorem d_Ma_markOf_0 : decode b_Ma_markOf 0 = .ok (.aload_n 0, 1) := by decide +kernel
theorem d_Ma_markOf_1 : decode b_Ma_markOf 1 = .ok (.iload_n 1, 1) := by decide +kernel
theorem d_Ma_markOf_2 : decode b_Ma_markOf 2 = .ok (.invokevirtual 52, 3) := by decide +kernel
theorem d_Ma_markOf_5 : decode b_Ma_markOf 5 = .ok (.istore_n 3, 1) := by decide +kernel
theorem d_Ma_markOf_6 : decode b_Ma_markOf 6 = .ok (.aload_n 0, 1) := by decide +kernel
theorem d_Ma_markOf_7 : decode b_Ma_markOf 7 = .ok (.iload_n 1, 1) := by decide +kernel
theorem d_Ma_markOf_8 : decode b_Ma_markOf 8 = .ok (.invokevirtual 49, 3) := by decide +kernel
theorem d_Ma_markOf_11 : decode b_Ma_markOf 11 = .ok (.istore 4, 2) := by decide +kernel
theorem d_Ma_markOf_13 : decode b_Ma_markOf 13 = .ok (.aload_n 0, 1) := by decide +kernel
theorem d_Ma_markOf_14 : decode b_Ma_markOf 14 = .ok (.iload 4, 2) := by decide +kernel
theorem d_Ma_markOf_16 : decode b_Ma_markOf 16 = .ok (.iload_n 3, 1) := by decide +kernel
theorem d_Ma_markOf_17 : decode b_Ma_markOf 17 = .ok (.invokevirtual 75, 3) := by decide +kernel
theorem d_Ma_markOf_20 : decode b_Ma_markOf 20 = .ok (.ifCond .ne 5, 3) := by decide +kernel
theorem d_Ma_markOf_23 : decode b_Ma_markOf 23 = .ok (.iconst 0, 1) := by decide +kernel
theorem d_Ma_markOf_24 : decode b_Ma_markOf 24 = .ok (.ireturn, 1) := by decide +kernel
theorem d_Ma_markOf_25 : decode b_Ma_markOf 25 = .ok (.iinc 4 2, 3) := by decide +kernel
theorem d_Ma_markOf_28 : decode b_Ma_markOf 28 = .ok (.iload_n 3, 1) := by decide +kernel
theorem d_Ma_markOf_29 : decode b_Ma_markOf 29 = .ok (.iload 4, 2) := by decide +kernel
theorem d_Ma_markOf_31 : decode b_Ma_markOf 31 = .ok (.isub, 1) := by decide +kernel
theorem d_Ma_markOf_32 : decode b_Ma_markOf 32 = .ok (.aload_n 2, 1) := by decide +kernel
theorem d_Ma_markOf_33 : decode b_Ma_markOf 33 = .ok (.getfield 34, 3) := by decide +kernel
theorem d_Ma_markOf_36 : decode b_Ma_markOf 36 = .ok (.if_icmp .ge 5, 3) := by decide +kernel
theorem d_Ma_markOf_39 : decode b_Ma_markOf 39 = .ok (.iconst 0, 1) := by decide +kernel
theorem d_Ma_markOf_40 : decode b_Ma_markOf 40 = .ok (.ireturn, 1) := by decide +kernel
theorem d_Ma_markOf_41 : decode b_Ma_markOf 41 = .ok (.iconst 0, 1) := by decide +kernel
theorem d_Ma_markOf_42 : decode b_Ma_markOf 42 = .ok (.istore 5, 2) := by decide +kernel
theorem d_Ma_markOf_44 : decode b_Ma_markOf 44 = .ok (.iload 5, 2) := by decide +kernel
theorem d_Ma_markOf_46 : decode b_Ma_markOf 46 = .ok (.aload_n 2, 1) := by decide +kernel
theorem d_Ma_markOf_47 : decode b_Ma_markOf 47 = .ok (.getfield 34, 3) := by decide +kernel
theorem d_Ma_markOf_50 : decode b_Ma_markOf 50 = .ok (.if_icmp .ge 32, 3) := by decide +kernel
theorem d_Ma_markOf_53 : decode b_Ma_markOf 53 = .ok (.aload_n 0, 1) := by decide +kernel
theorem d_Ma_markOf_54 : decode b_Ma_markOf 54 = .ok (.getfield 14, 3) := by decide +kernel
theorem d_Ma_markOf_57 : decode b_Ma_markOf 57 = .ok (.iload 4, 2) := by decide +kernel
theorem d_Ma_markOf_59 : decode b_Ma_markOf 59 = .ok (.iload 5, 2) := by decide +kernel
theorem d_Ma_markOf_61 : decode b_Ma_markOf 61 = .ok (.iadd, 1) := by decide +kernel
theorem d_Ma_markOf_62 : decode b_Ma_markOf 62 = .ok (.invokevirtual 41, 3) := by decide +kernel
theorem d_Ma_markOf_65 : decode b_Ma_markOf 65 = .ok (.aload_n 2, 1) := by decide +kernel
theorem d_Ma_markOf_66 : decode b_Ma_markOf 66 = .ok (.iload 5, 2) := by decide +kernel
theorem d_Ma_markOf_68 : decode b_Ma_markOf 68 = .ok (.invokevirtual 41, 3) := by decide +kernel
theorem d_Ma_markOf_71 : decode b_Ma_markOf 71 = .ok (.if_icmp .eq 5, 3) := by decide +kernel
theorem d_Ma_markOf_74 : decode b_Ma_markOf 74 = .ok (.iconst 0, 1) := by decide +kernel
theorem d_Ma_markOf_75 : decode b_Ma_markOf 75 = .ok (.ireturn, 1) := by decide +kernel
theorem d_Ma_markOf_76 : decode b_Ma_markOf 76 = .ok (.iinc 5 1, 3) := by decide +kernel
theorem d_Ma_markOf_79 : decode b_Ma_markOf 79 = .ok (.goto (-35), 3) := by decide +kernel
theorem d_Ma_markOf_82 : decode b_Ma_markOf 82 = .ok (.iload 4, 2) := by decide +kernel
theorem d_Ma_markOf_84 : decode b_Ma_markOf 84 = .ok (.aload_n 2, 1) := by decide +kernel
theorem d_Ma_markOf_85 : decode b_Ma_markOf 85 = .ok (.getfield 34, 3) := by decide +kernel
theorem d_Ma_markOf_88 : decode b_Ma_markOf 88 = .ok (.iadd, 1) := by decide +kernel
theorem d_Ma_markOf_89 : decode b_Ma_markOf 89 = .ok (.istore 4, 2) := by decide +kernel
theorem d_Ma_markOf_91 : decode b_Ma_markOf 91 = .ok (.aload_n 0, 1) := by decide +kernel
theorem d_Ma_markOf_92 : decode b_Ma_markOf 92 = .ok (.iload 4, 2) := by decide +kernel
theorem d_Ma_markOf_94 : decode b_Ma_markOf 94 = .ok (.iload_n 3, 1) := by decide +kernel
theorem d_Ma_markOf_95 : decode b_Ma_markOf 95 = .ok (.invokevirtual 75, 3) := by decide +kernel
theorem d_Ma_markOf_98 : decode b_Ma_markOf 98 = .ok (.istore 5, 2) := by decide +kernel
theorem d_Ma_markOf_100 : decode b_Ma_markOf 100 = .ok (.iload 5, 2) := by decide +kernel
theorem d_Ma_markOf_102 : decode b_Ma_markOf 102 = .ok (.ifCond .eq 10, 3) := by decide +kernel
theorem d_Ma_markOf_105 : decode b_Ma_markOf 105 = .ok (.iload 4, 2) := by decide +kernel
theorem d_Ma_markOf_107 : decode b_Ma_markOf 107 = .ok (.iconst 2, 1) := by decide +kernel
theorem d_Ma_markOf_108 : decode b_Ma_markOf 108 = .ok (.iadd, 1) := by decide +kernel
theorem d_Ma_markOf_109 : decode b_Ma_markOf 109 = .ok (.goto 5, 3) := by decide +kernel
theorem d_Ma_markOf_112 : decode b_Ma_markOf 112 = .ok (.iload 4, 2) := by decide +kernel
theorem d_Ma_markOf_114 : decode b_Ma_markOf 114 = .ok (.istore 6, 2) := by decide +kernel
theorem d_Ma_markOf_116 : decode b_Ma_markOf 116 = .ok (.iload 6, 2) := by decide +kernel
theorem d_Ma_markOf_118 : decode b_Ma_markOf 118 = .ok (.iload_n 3, 1) := by decide +kernel
theorem d_Ma_markOf_119 : decode b_Ma_markOf 119 = .ok (.if_icmp .ge 26, 3) := by decide +kernel
theorem d_Ma_markOf_122 : decode b_Ma_markOf 122 = .ok (.aload_n 0, 1) := by decide +kernel
theorem d_Ma_markOf_123 : decode b_Ma_markOf 123 = .ok (.getfield 14, 3) := by decide +kernel
theorem d_Ma_markOf_126 : decode b_Ma_markOf 126 = .ok (.iload 6, 2) := by decide +kernel
theorem d_Ma_markOf_128 : decode b_Ma_markOf 128 = .ok (.invokevirtual 41, 3) := by decide +kernel
theorem d_Ma_markOf_131 : decode b_Ma_markOf 131 = .ok (.invokestatic 55, 3) := by decide +kernel
theorem d_Ma_markOf_134 : decode b_Ma_markOf 134 = .ok (.ifCond .ne 5, 3) := by decide +kernel
theorem d_Ma_markOf_137 : decode b_Ma_markOf 137 = .ok (.iconst 0, 1) := by decide +kernel
theorem d_Ma_markOf_138 : decode b_Ma_markOf 138 = .ok (.ireturn, 1) := by decide +kernel
theorem d_Ma_markOf_139 : decode b_Ma_markOf 139 = .ok (.iinc 6 1, 3) := by decide +kernel
theorem d_Ma_markOf_142 : decode b_Ma_markOf 142 = .ok (.goto (-26), 3) := by decide +kernel
theorem d_Ma_markOf_145 : decode b_Ma_markOf 145 = .ok (.iload 5, 2) := by decide +kernel
theorem d_Ma_markOf_147 : decode b_Ma_markOf 147 = .ok (.ifCond .eq 7, 3) := by decide +kernel
theorem d_Ma_markOf_150 : decode b_Ma_markOf 150 = .ok (.iconst 2, 1) := by decide +kernel
theorem d_Ma_markOf_151 : decode b_Ma_markOf 151 = .ok (.goto 4, 3) := by decide +kernel
theorem d_Ma_markOf_154 : decode b_Ma_markOf 154 = .ok (.iconst 1, 1) := by decide +kernel
theorem d_Ma_markOf_155 : decode b_Ma_markOf 155 = .ok (.ireturn, 1) := by decide +kernel
theorem d_Ma_hasDashes_0 : decode b_Ma_hasDashes 0 = .ok (.iload_n 1, 1) := by decide +kernel
theorem d_Ma_hasDashes_1 : decode b_Ma_hasDashes 1 = .ok (.iconst 1, 1) := by decide +kernel
theorem d_Ma_hasDashes_2 : decode b_Ma_hasDashes 2 = .ok (.iadd, 1) := by decide +kernel
theorem d_Ma_hasDashes_3 : decode b_Ma_hasDashes 3 = .ok (.iload_n 2, 1) := by decide +kernel
theorem d_Ma_hasDashes_4 : decode b_Ma_hasDashes 4 = .ok (.if_icmp .ge 35, 3) := by decide +kernel
theorem d_Ma_hasDashes_7 : decode b_Ma_hasDashes 7 = .ok (.aload_n 0, 1) := by decide +kernel
theorem d_Ma_hasDashes_8 : decode b_Ma_hasDashes 8 = .ok (.getfield 14, 3) := by decide +kernel
theorem d_Ma_hasDashes_11 : decode b_Ma_hasDashes 11 = .ok (.iload_n 1, 1) := by decide +kernel
theorem d_Ma_hasDashes_12 : decode b_Ma_hasDashes 12 = .ok (.invokevirtual 41, 3) := by decide +kernel
theorem d_Ma_hasDashes_15 : decode b_Ma_hasDashes 15 = .ok (.bipush 45, 2) := by decide +kernel
theorem d_Ma_hasDashes_17 : decode b_Ma_hasDashes 17 = .ok (.if_icmp .ne 22, 3) := by decide +kernel
theorem d_Ma_hasDashes_20 : decode b_Ma_hasDashes 20 = .ok (.aload_n 0, 1) := by decide +kernel
theorem d_Ma_hasDashes_21 : decode b_Ma_hasDashes 21 = .ok (.getfield 14, 3) := by decide +kernel
theorem d_Ma_hasDashes_24 : decode b_Ma_hasDashes 24 = .ok (.iload_n 1, 1) := by decide +kernel
theorem d_Ma_hasDashes_25 : decode b_Ma_hasDashes 25 = .ok (.iconst 1, 1) := by decide +kernel
theorem d_Ma_hasDashes_26 : decode b_Ma_hasDashes 26 = .ok (.iadd, 1) := by decide +kernel
theorem d_Ma_hasDashes_27 : decode b_Ma_hasDashes 27 = .ok (.invokevirtual 41, 3) := by decide +kernel
theorem d_Ma_hasDashes_30 : decode b_Ma_hasDashes 30 = .ok (.bipush 45, 2) := by decide +kernel
theorem d_Ma_hasDashes_32 : decode b_Ma_hasDashes 32 = .ok (.if_icmp .ne 7, 3) := by decide +kernel
theorem d_Ma_hasDashes_35 : decode b_Ma_hasDashes 35 = .ok (.iconst 1, 1) := by decide +kernel
theorem d_Ma_hasDashes_36 : decode b_Ma_hasDashes 36 = .ok (.goto 4, 3) := by decide +kernel
theorem d_Ma_hasDashes_39 : decode b_Ma_hasDashes 39 = .ok (.iconst 0, 1) := by decide +kernel
theorem d_Ma_hasDashes_40 : decode b_Ma_hasDashes 40 = .ok (.ireturn, 1) := by decide +kernel
theorem d_Ro_init_0 : decode b_Ro_init 0 = .ok (.aload_n 0, 1) := by decide +kernel
theorem d_Ro_init_1 : decode b_Ro_init 1 = .ok (.invokespecial 3, 3) := by decide +kernel
theorem d_Ro_init_4 : decode b_Ro_init 4 = .ok (.aload_n 0, 1) := by decide +kernel
theorem d_Ro_init_5 : decode b_Ro_init 5 = .ok (.iload_n 1, 1) := by decide +kernel
theorem d_Ro_init_6 : decode b_Ro_init 6 = .ok (.iconst 0, 1) := by decide +kernel
theorem d_Ro_init_7 : decode b_Ro_init 7 = .ok (.invokestatic 9, 3) := by decide +kernel
theorem d_Ro_init_10 : decode b_Ro_init 10 = .ok (.newarray .int, 2) := by decide +kernel
theorem d_Ro_init_12 : decode b_Ro_init 12 = .ok (.putfield 15, 3) := by decide +kernel
theorem d_Ro_init_15 : decode b_Ro_init 15 = .ok (.aload_n 0, 1) := by decide +kernel
theorem d_Ro_init_16 : decode b_Ro_init 16 = .ok (.iconst 0, 1) := by decide +kernel
theorem d_Ro_init_17 : decode b_Ro_init 17 = .ok (.putfield 21, 3) := by decide +kernel
theorem d_Ro_init_20 : decode b_Ro_init 20 = .ok (.return_, 1) := by decide +kernel
theorem d_Ro_get_0 : decode b_Ro_get 0 = .ok (.iload_n 1, 1) := by decide +kernel
theorem d_Ro_get_1 : decode b_Ro_get 1 = .ok (.ifCond .lt 29, 3) := by decide +kernel
theorem d_Ro_get_4 : decode b_Ro_get 4 = .ok (.iload_n 1, 1) := by decide +kernel
theorem d_Ro_get_5 : decode b_Ro_get 5 = .ok (.aload_n 0, 1) := by decide +kernel
theorem d_Ro_get_6 : decode b_Ro_get 6 = .ok (.getfield 21, 3) := by decide +kernel
theorem d_Ro_get_9 : decode b_Ro_get 9 = .ok (.if_icmp .ge 21, 3) := by decide +kernel
theorem d_Ro_get_12 : decode b_Ro_get 12 = .ok (.iload_n 1, 1) := by decide +kernel
theorem d_Ro_get_13 : decode b_Ro_get 13 = .ok (.aload_n 0, 1) := by decide +kernel
theorem d_Ro_get_14 : decode b_Ro_get 14 = .ok (.getfield 15, 3) := by decide +kernel
theorem d_Ro_get_17 : decode b_Ro_get 17 = .ok (.arraylength, 1) := by decide +kernel
theorem d_Ro_get_18 : decode b_Ro_get 18 = .ok (.if_icmp .ge 12, 3) := by decide +kernel
theorem d_Ro_get_21 : decode b_Ro_get 21 = .ok (.aload_n 0, 1) := by decide +kernel
theorem d_Ro_get_22 : decode b_Ro_get 22 = .ok (.getfield 15, 3) := by decide +kernel
theorem d_Ro_get_25 : decode b_Ro_get 25 = .ok (.iload_n 1, 1) := by decide +kernel
theorem d_Ro_get_26 : decode b_Ro_get 26 = .ok (.iaload, 1) := by decide +kernel
theorem d_Ro_get_27 : decode b_Ro_get 27 = .ok (.goto 4, 3) := by decide +kernel
theorem d_Ro_get_30 : decode b_Ro_get 30 = .ok (.iconst (-1), 1) := by decide +kernel
theorem d_Ro_get_31 : decode b_Ro_get 31 = .ok (.ireturn, 1) := by decide +kernel
theorem d_Ro_clear_0 : decode b_Ro_clear 0 = .ok (.aload_n 0, 1) := by decide +kernel
theorem d_Ro_clear_1 : decode b_Ro_clear 1 = .ok (.iconst 0, 1) := by decide +kernel
theorem d_Ro_clear_2 : decode b_Ro_clear 2 = .ok (.putfield 21, 3) := by decide +kernel
theorem d_Ro_clear_5 : decode b_Ro_clear 5 = .ok (.return_, 1) := by decide +kernel
theorem d_Ro_add_0 : decode b_Ro_add 0 = .ok (.aload_n 0, 1) := by decide +kernel
theorem d_Ro_add_1 : decode b_Ro_add 1 = .ok (.getfield 21, 3) := by decide +kernel
theorem d_Ro_add_4 : decode b_Ro_add 4 = .ok (.ifCond .lt 35, 3) := by decide +kernel
theorem d_Ro_add_7 : decode b_Ro_add 7 = .ok (.aload_n 0, 1) := by decide +kernel
theorem d_Ro_add_8 : decode b_Ro_add 8 = .ok (.getfield 21, 3) := by decide +kernel
theorem d_Ro_add_11 : decode b_Ro_add 11 = .ok (.aload_n 0, 1) := by decide +kernel
theorem d_Ro_add_12 : decode b_Ro_add 12 = .ok (.getfield 15, 3) := by decide +kernel
theorem d_Ro_add_15 : decode b_Ro_add 15 = .ok (.arraylength, 1) := by decide +kernel
theorem d_Ro_add_16 : decode b_Ro_add 16 = .ok (.if_icmp .ge 23, 3) := by decide +kernel
theorem d_Ro_add_19 : decode b_Ro_add 19 = .ok (.aload_n 0, 1) := by decide +kernel
theorem d_Ro_add_20 : decode b_Ro_add 20 = .ok (.getfield 15, 3) := by decide +kernel
theorem d_Ro_add_23 : decode b_Ro_add 23 = .ok (.aload_n 0, 1) := by decide +kernel
theorem d_Ro_add_24 : decode b_Ro_add 24 = .ok (.getfield 21, 3) := by decide +kernel
theorem d_Ro_add_27 : decode b_Ro_add 27 = .ok (.iload_n 1, 1) := by decide +kernel
theorem d_Ro_add_28 : decode b_Ro_add 28 = .ok (.iastore, 1) := by decide +kernel
theorem d_Ro_add_29 : decode b_Ro_add 29 = .ok (.aload_n 0, 1) := by decide +kernel
theorem d_Ro_add_30 : decode b_Ro_add 30 = .ok (.dup, 1) := by decide +kernel
theorem d_Ro_add_31 : decode b_Ro_add 31 = .ok (.getfield 21, 3) := by decide +kernel
theorem d_Ro_add_34 : decode b_Ro_add 34 = .ok (.iconst 1, 1) := by decide +kernel
theorem d_Ro_add_35 : decode b_Ro_add 35 = .ok (.iadd, 1) := by decide +kernel
theorem d_Ro_add_36 : decode b_Ro_add 36 = .ok (.putfield 21, 3) := by decide +kernel
theorem d_Ro_add_39 : decode b_Ro_add 39 = .ok (.return_, 1) := by decide +kernel
theorem d_Ro_set_0 : decode b_Ro_set 0 = .ok (.iload_n 1, 1) := by decide +kernel
theorem d_Ro_set_1 : decode b_Ro_set 1 = .ok (.ifCond .lt 27, 3) := by decide +kernel
theorem d_Ro_set_4 : decode b_Ro_set 4 = .ok (.iload_n 1, 1) := by decide +kernel
theorem d_Ro_set_5 : decode b_Ro_set 5 = .ok (.aload_n 0, 1) := by decide +kernel
theorem d_Ro_set_6 : decode b_Ro_set 6 = .ok (.getfield 21, 3) := by decide +kernel
theorem d_Ro_set_9 : decode b_Ro_set 9 = .ok (.if_icmp .ge 19, 3) := by decide +kernel
theorem d_Ro_set_12 : decode b_Ro_set 12 = .ok (.iload_n 1, 1) := by decide +kernel
theorem d_Ro_set_13 : decode b_Ro_set 13 = .ok (.aload_n 0, 1) := by decide +kernel
theorem d_Ro_set_14 : decode b_Ro_set 14 = .ok (.getfield 15, 3) := by decide +kernel
theorem d_Ro_set_17 : decode b_Ro_set 17 = .ok (.arraylength, 1) := by decide +kernel
theorem d_Ro_set_18 : decode b_Ro_set 18 = .ok (.if_icmp .ge 10, 3) := by decide +kernel
theorem d_Ro_set_21 : decode b_Ro_set 21 = .ok (.aload_n 0, 1) := by decide +kernel
theorem d_Ro_set_22 : decode b_Ro_set 22 = .ok (.getfield 15, 3) := by decide +kernel
theorem d_Ro_set_25 : decode b_Ro_set 25 = .ok (.iload_n 1, 1) := by decide +kernel
theorem d_Ro_set_26 : decode b_Ro_set 26 = .ok (.iload_n 2, 1) := by decide +kernel
theorem d_Ro_set_27 : decode b_Ro_set 27 = .ok (.iastore, 1) := by decide +kernel
theorem d_Ro_set_28 : decode b_Ro_set 28 = .ok (.return_, 1) := by decide +kernel
theorem d_Ro_shorten_0 : decode b_Ro_shorten 0 = .ok (.aload_n 0, 1) := by decide +kernel
theorem d_Ro_shorten_1 : decode b_Ro_shorten 1 = .ok (.iconst 0, 1) := by decide +kernel
theorem d_Ro_shorten_2 : decode b_Ro_shorten 2 = .ok (.aload_n 0, 1) := by decide +kernel
theorem d_Ro_shorten_3 : decode b_Ro_shorten 3 = .ok (.getfield 21, 3) := by decide +kernel
theorem d_Ro_shorten_6 : decode b_Ro_shorten 6 = .ok (.iload_n 1, 1) := by decide +kernel
theorem d_Ro_shorten_7 : decode b_Ro_shorten 7 = .ok (.invokestatic 25, 3) := by decide +kernel
theorem d_Ro_shorten_10 : decode b_Ro_shorten 10 = .ok (.invokestatic 9, 3) := by decide +kernel
theorem d_Ro_shorten_13 : decode b_Ro_shorten 13 = .ok (.putfield 21, 3) := by decide +kernel
theorem d_Ro_shorten_16 : decode b_Ro_shorten 16 = .ok (.return_, 1) := by decide +kernel
theorem d_Ro_addRange_0 : decode b_Ro_addRange 0 = .ok (.iload_n 2, 1) := by decide +kernel
theorem d_Ro_addRange_1 : decode b_Ro_addRange 1 = .ok (.istore 4, 2) := by decide +kernel
theorem d_Ro_addRange_3 : decode b_Ro_addRange 3 = .ok (.iload 4, 2) := by decide +kernel
theorem d_Ro_addRange_5 : decode b_Ro_addRange 5 = .ok (.iload_n 3, 1) := by decide +kernel
theorem d_Ro_addRange_6 : decode b_Ro_addRange 6 = .ok (.if_icmp .ge 19, 3) := by decide +kernel
theorem d_Ro_addRange_9 : decode b_Ro_addRange 9 = .ok (.aload_n 0, 1) := by decide +kernel
theorem d_Ro_addRange_10 : decode b_Ro_addRange 10 = .ok (.aload_n 1, 1) := by decide +kernel
theorem d_Ro_addRange_11 : decode b_Ro_addRange 11 = .ok (.iload 4, 2) := by decide +kernel
theorem d_Ro_addRange_13 : decode b_Ro_addRange 13 = .ok (.invokevirtual 28, 3) := by decide +kernel
theorem d_Ro_addRange_16 : decode b_Ro_addRange 16 = .ok (.invokevirtual 32, 3) := by decide +kernel
theorem d_Ro_addRange_19 : decode b_Ro_addRange 19 = .ok (.iinc 4 1, 3) := by decide +kernel
theorem d_Ro_addRange_22 : decode b_Ro_addRange 22 = .ok (.goto (-19), 3) := by decide +kernel
theorem d_Ro_addRange_25 : decode b_Ro_addRange 25 = .ok (.return_, 1) := by decide +kernel
theorem d_Ro_put_0 : decode b_Ro_put 0 = .ok (.aload_n 0, 1) := by decide +kernel
theorem d_Ro_put_1 : decode b_Ro_put 1 = .ok (.invokevirtual 36, 3) := by decide +kernel
theorem d_Ro_put_4 : decode b_Ro_put 4 = .ok (.iconst 0, 1) := by decide +kernel
theorem d_Ro_put_5 : decode b_Ro_put 5 = .ok (.istore_n 2, 1) := by decide +kernel
theorem d_Ro_put_6 : decode b_Ro_put 6 = .ok (.iload_n 2, 1) := by decide +kernel
theorem d_Ro_put_7 : decode b_Ro_put 7 = .ok (.aload_n 1, 1) := by decide +kernel
theorem d_Ro_put_8 : decode b_Ro_put 8 = .ok (.invokevirtual 39, 3) := by decide +kernel
theorem d_Ro_put_11 : decode b_Ro_put 11 = .ok (.if_icmp .ge 18, 3) := by decide +kernel
theorem d_Ro_put_14 : decode b_Ro_put 14 = .ok (.aload_n 0, 1) := by decide +kernel
theorem d_Ro_put_15 : decode b_Ro_put 15 = .ok (.aload_n 1, 1) := by decide +kernel
theorem d_Ro_put_16 : decode b_Ro_put 16 = .ok (.iload_n 2, 1) := by decide +kernel
theorem d_Ro_put_17 : decode b_Ro_put 17 = .ok (.invokevirtual 45, 3) := by decide +kernel
theorem d_Ro_put_20 : decode b_Ro_put 20 = .ok (.invokevirtual 32, 3) := by decide +kernel
theorem d_Ro_put_23 : decode b_Ro_put 23 = .ok (.iinc 2 1, 3) := by decide +kernel
theorem d_Ro_put_26 : decode b_Ro_put 26 = .ok (.goto (-20), 3) := by decide +kernel
theorem d_Ro_put_29 : decode b_Ro_put 29 = .ok (.return_, 1) := by decide +kernel
theorem d_Ro_begins_0 : decode b_Ro_begins 0 = .ok (.aload_n 0, 1) := by decide +kernel
theorem d_Ro_begins_1 : decode b_Ro_begins 1 = .ok (.getfield 21, 3) := by decide +kernel
theorem d_Ro_begins_4 : decode b_Ro_begins 4 = .ok (.aload_n 1, 1) := by decide +kernel
theorem d_Ro_begins_5 : decode b_Ro_begins 5 = .ok (.invokevirtual 39, 3) := by decide +kernel
theorem d_Ro_begins_8 : decode b_Ro_begins 8 = .ok (.if_icmp .ge 5, 3) := by decide +kernel
theorem d_Ro_begins_11 : decode b_Ro_begins 11 = .ok (.iconst 0, 1) := by decide +kernel
theorem d_Ro_begins_12 : decode b_Ro_begins 12 = .ok (.ireturn, 1) := by decide +kernel
theorem d_Ro_begins_13 : decode b_Ro_begins 13 = .ok (.iconst 0, 1) := by decide +kernel
theorem d_Ro_begins_14 : decode b_Ro_begins 14 = .ok (.istore_n 2, 1) := by decide +kernel
theorem d_Ro_begins_15 : decode b_Ro_begins 15 = .ok (.iload_n 2, 1) := by decide +kernel
theorem d_Ro_begins_16 : decode b_Ro_begins 16 = .ok (.aload_n 1, 1) := by decide +kernel
theorem d_Ro_begins_17 : decode b_Ro_begins 17 = .ok (.invokevirtual 39, 3) := by decide +kernel
theorem d_Ro_begins_20 : decode b_Ro_begins 20 = .ok (.if_icmp .ge 24, 3) := by decide +kernel
theorem d_Ro_begins_23 : decode b_Ro_begins 23 = .ok (.aload_n 0, 1) := by decide +kernel
theorem d_Ro_begins_24 : decode b_Ro_begins 24 = .ok (.iload_n 2, 1) := by decide +kernel
theorem d_Ro_begins_25 : decode b_Ro_begins 25 = .ok (.invokevirtual 28, 3) := by decide +kernel
theorem d_Ro_begins_28 : decode b_Ro_begins 28 = .ok (.aload_n 1, 1) := by decide +kernel
theorem d_Ro_begins_29 : decode b_Ro_begins 29 = .ok (.iload_n 2, 1) := by decide +kernel
theorem d_Ro_begins_30 : decode b_Ro_begins 30 = .ok (.invokevirtual 45, 3) := by decide +kernel
theorem d_Ro_begins_33 : decode b_Ro_begins 33 = .ok (.if_icmp .eq 5, 3) := by decide +kernel
theorem d_Ro_begins_36 : decode b_Ro_begins 36 = .ok (.iconst 0, 1) := by decide +kernel
theorem d_Ro_begins_37 : decode b_Ro_begins 37 = .ok (.ireturn, 1) := by decide +kernel
theorem d_Ro_begins_38 : decode b_Ro_begins 38 = .ok (.iinc 2 1, 3) := by decide +kernel
theorem d_Ro_begins_41 : decode b_Ro_begins 41 = .ok (.goto (-26), 3) := by decide +kernel
theorem d_Ro_begins_44 : decode b_Ro_begins 44 = .ok (.iconst 1, 1) := by decide +kernel
theorem d_Ro_begins_45 : decode b_Ro_begins 45 = .ok (.ireturn, 1) := by decide +kernel
theorem d_Ro_is_0 : decode b_Ro_is 0 = .ok (.aload_n 0, 1) := by decide +kernel
theorem d_Ro_is_1 : decode b_Ro_is 1 = .ok (.getfield 21, 3) := by decide +kernel
theorem d_Ro_is_4 : decode b_Ro_is 4 = .ok (.aload_n 1, 1) := by decide +kernel
theorem d_Ro_is_5 : decode b_Ro_is 5 = .ok (.invokevirtual 39, 3) := by decide +kernel
theorem d_Ro_is_8 : decode b_Ro_is 8 = .ok (.if_icmp .ne 15, 3) := by decide +kernel
theorem d_Ro_is_11 : decode b_Ro_is 11 = .ok (.aload_n 0, 1) := by decide +kernel
theorem d_Ro_is_12 : decode b_Ro_is 12 = .ok (.aload_n 1, 1) := by decide +kernel
theorem d_Ro_is_13 : decode b_Ro_is 13 = .ok (.invokevirtual 49, 3) := by decide +kernel
theorem d_Ro_is_16 : decode b_Ro_is 16 = .ok (.ifCond .eq 7, 3) := by decide +kernel
theorem d_Ro_is_19 : decode b_Ro_is 19 = .ok (.iconst 1, 1) := by decide +kernel
theorem d_Ro_is_20 : decode b_Ro_is 20 = .ok (.goto 4, 3) := by decide +kernel
theorem d_Ro_is_23 : decode b_Ro_is 23 = .ok (.iconst 0, 1) := by decide +kernel
theorem d_Ro_is_24 : decode b_Ro_is 24 = .ok (.ireturn, 1) := by decide +kernel
theorem d_Ro_hasName_0 : decode b_Ro_hasName 0 = .ok (.iconst 0, 1) := by decide +kernel
theorem d_Ro_hasName_1 : decode b_Ro_hasName 1 = .ok (.istore_n 3, 1) := by decide +kernel
theorem d_Ro_hasName_2 : decode b_Ro_hasName 2 = .ok (.iload_n 3, 1) := by decide +kernel
theorem d_Ro_hasName_3 : decode b_Ro_hasName 3 = .ok (.aload_n 2, 1) := by decide +kernel
theorem d_Ro_hasName_4 : decode b_Ro_hasName 4 = .ok (.getfield 21, 3) := by decide +kernel
theorem d_Ro_hasName_7 : decode b_Ro_hasName 7 = .ok (.if_icmp .ge 32, 3) := by decide +kernel
theorem d_Ro_hasName_10 : decode b_Ro_hasName 10 = .ok (.aload_n 0, 1) := by decide +kernel
theorem d_Ro_hasName_11 : decode b_Ro_hasName 11 = .ok (.iload_n 1, 1) := by decide +kernel
theorem d_Ro_hasName_12 : decode b_Ro_hasName 12 = .ok (.iload_n 3, 1) := by decide +kernel
theorem d_Ro_hasName_13 : decode b_Ro_hasName 13 = .ok (.iadd, 1) := by decide +kernel
theorem d_Ro_hasName_14 : decode b_Ro_hasName 14 = .ok (.invokevirtual 28, 3) := by decide +kernel
theorem d_Ro_hasName_17 : decode b_Ro_hasName 17 = .ok (.invokestatic 53, 3) := by decide +kernel
theorem d_Ro_hasName_20 : decode b_Ro_hasName 20 = .ok (.aload_n 2, 1) := by decide +kernel
theorem d_Ro_hasName_21 : decode b_Ro_hasName 21 = .ok (.iload_n 3, 1) := by decide +kernel
theorem d_Ro_hasName_22 : decode b_Ro_hasName 22 = .ok (.invokevirtual 28, 3) := by decide +kernel
theorem d_Ro_hasName_25 : decode b_Ro_hasName 25 = .ok (.invokestatic 53, 3) := by decide +kernel
theorem d_Ro_hasName_28 : decode b_Ro_hasName 28 = .ok (.if_icmp .eq 5, 3) := by decide +kernel
theorem d_Ro_hasName_31 : decode b_Ro_hasName 31 = .ok (.iconst 0, 1) := by decide +kernel
theorem d_Ro_hasName_32 : decode b_Ro_hasName 32 = .ok (.ireturn, 1) := by decide +kernel
theorem d_Ro_hasName_33 : decode b_Ro_hasName 33 = .ok (.iinc 3 1, 3) := by decide +kernel
theorem d_Ro_hasName_36 : decode b_Ro_hasName 36 = .ok (.goto (-34), 3) := by decide +kernel
theorem d_Ro_hasName_39 : decode b_Ro_hasName 39 = .ok (.iconst 1, 1) := by decide +kernel
theorem d_Ro_hasName_40 : decode b_Ro_hasName 40 = .ok (.ireturn, 1) := by decide +kernel
theorem d_Va_init_0 : decode b_Va_init 0 = .ok (.aload_n 0, 1) := by decide +kernel
theorem d_Va_init_1 : decode b_Va_init 1 = .ok (.invokespecial 3, 3) := by decide +kernel
theorem d_Va_init_4 : decode b_Va_init 4 = .ok (.aload_n 0, 1) := by decide +kernel
theorem d_Va_init_5 : decode b_Va_init 5 = .ok (.new 9, 3) := by decide +kernel
theorem d_Va_init_8 : decode b_Va_init 8 = .ok (.dup, 1) := by decide +kernel
theorem d_Va_init_9 : decode b_Va_init 9 = .ok (.sipush 1500, 3) := by decide +kernel
theorem d_Va_init_12 : decode b_Va_init 12 = .ok (.invokespecial 11, 3) := by decide +kernel
theorem d_Va_init_15 : decode b_Va_init 15 = .ok (.putfield 14, 3) := by decide +kernel
theorem d_Va_init_18 : decode b_Va_init 18 = .ok (.return_, 1) := by decide +kernel
theorem d_Va_keepFirstItem_0 : decode b_Va_keepFirstItem 0 = .ok (.aload_n 0, 1) := by decide +kernel
theorem d_Va_keepFirstItem_1 : decode b_Va_keepFirstItem 1 = .ok (.iconst 0, 1) := by decide +kernel
theorem d_Va_keepFirstItem_2 : decode b_Va_keepFirstItem 2 = .ok (.aload_n 0, 1) := by decide +kernel
theorem d_Va_keepFirstItem_3 : decode b_Va_keepFirstItem 3 = .ok (.bipush 59, 2) := by decide +kernel
theorem d_Va_keepFirstItem_5 : decode b_Va_keepFirstItem 5 = .ok (.iconst 0, 1) := by decide +kernel
theorem d_Va_keepFirstItem_6 : decode b_Va_keepFirstItem 6 = .ok (.aload_n 0, 1) := by decide +kernel
theorem d_Va_keepFirstItem_7 : decode b_Va_keepFirstItem 7 = .ok (.getfield 14, 3) := by decide +kernel
theorem d_Va_keepFirstItem_10 : decode b_Va_keepFirstItem 10 = .ok (.getfield 20, 3) := by decide +kernel
theorem d_Va_keepFirstItem_13 : decode b_Va_keepFirstItem 13 = .ok (.invokevirtual 24, 3) := by decide +kernel
theorem d_Va_keepFirstItem_16 : decode b_Va_keepFirstItem 16 = .ok (.invokevirtual 28, 3) := by decide +kernel
theorem d_Va_keepFirstItem_19 : decode b_Va_keepFirstItem 19 = .ok (.iconst 0, 1) := by decide +kernel
theorem d_Va_keepFirstItem_20 : decode b_Va_keepFirstItem 20 = .ok (.istore_n 1, 1) := by decide +kernel
theorem d_Va_keepFirstItem_21 : decode b_Va_keepFirstItem 21 = .ok (.iload_n 1, 1) := by decide +kernel
theorem d_Va_keepFirstItem_22 : decode b_Va_keepFirstItem 22 = .ok (.aload_n 0, 1) := by decide +kernel
theorem d_Va_keepFirstItem_23 : decode b_Va_keepFirstItem 23 = .ok (.getfield 14, 3) := by decide +kernel
theorem d_Va_keepFirstItem_26 : decode b_Va_keepFirstItem 26 = .ok (.getfield 20, 3) := by decide +kernel
theorem d_Va_keepFirstItem_29 : decode b_Va_keepFirstItem 29 = .ok (.if_icmp .ge 28, 3) := by decide +kernel
theorem d_Va_keepFirstItem_32 : decode b_Va_keepFirstItem 32 = .ok (.aload_n 0, 1) := by decide +kernel
theorem d_Va_keepFirstItem_33 : decode b_Va_keepFirstItem 33 = .ok (.getfield 14, 3) := by decide +kernel
theorem d_Va_keepFirstItem_36 : decode b_Va_keepFirstItem 36 = .ok (.iload_n 1, 1) := by decide +kernel
theorem d_Va_keepFirstItem_37 : decode b_Va_keepFirstItem 37 = .ok (.aload_n 0, 1) := by decide +kernel
theorem d_Va_keepFirstItem_38 : decode b_Va_keepFirstItem 38 = .ok (.getfield 14, 3) := by decide +kernel
theorem d_Va_keepFirstItem_41 : decode b_Va_keepFirstItem 41 = .ok (.iload_n 1, 1) := by decide +kernel
theorem d_Va_keepFirstItem_42 : decode b_Va_keepFirstItem 42 = .ok (.invokevirtual 32, 3) := by decide +kernel
theorem d_Va_keepFirstItem_45 : decode b_Va_keepFirstItem 45 = .ok (.invokestatic 36, 3) := by decide +kernel
theorem d_Va_keepFirstItem_48 : decode b_Va_keepFirstItem 48 = .ok (.invokevirtual 39, 3) := by decide +kernel
theorem d_Va_keepFirstItem_51 : decode b_Va_keepFirstItem 51 = .ok (.iinc 1 1, 3) := by decide +kernel
theorem d_Va_keepFirstItem_54 : decode b_Va_keepFirstItem 54 = .ok (.goto (-33), 3) := by decide +kernel
theorem d_Va_keepFirstItem_57 : decode b_Va_keepFirstItem 57 = .ok (.return_, 1) := by decide +kernel
theorem d_Va_keepParameter_0 : decode b_Va_keepParameter 0 = .ok (.aload_n 0, 1) := by decide +kernel
theorem d_Va_keepParameter_1 : decode b_Va_keepParameter 1 = .ok (.getfield 14, 3) := by decide +kernel
theorem d_Va_keepParameter_4 : decode b_Va_keepParameter 4 = .ok (.getfield 20, 3) := by decide +kernel
theorem d_Va_keepParameter_7 : decode b_Va_keepParameter 7 = .ok (.istore_n 2, 1) := by decide +kernel
theorem d_Va_keepParameter_8 : decode b_Va_keepParameter 8 = .ok (.aload_n 0, 1) := by decide +kernel
theorem d_Va_keepParameter_9 : decode b_Va_keepParameter 9 = .ok (.bipush 59, 2) := by decide +kernel
theorem d_Va_keepParameter_11 : decode b_Va_keepParameter 11 = .ok (.iconst 0, 1) := by decide +kernel
theorem d_Va_keepParameter_12 : decode b_Va_keepParameter 12 = .ok (.iload_n 2, 1) := by decide +kernel
theorem d_Va_keepParameter_13 : decode b_Va_keepParameter 13 = .ok (.invokevirtual 24, 3) := by decide +kernel
theorem d_Va_keepParameter_16 : decode b_Va_keepParameter 16 = .ok (.iconst 1, 1) := by decide +kernel
theorem d_Va_keepParameter_17 : decode b_Va_keepParameter 17 = .ok (.iadd, 1) := by decide +kernel
theorem d_Va_keepParameter_18 : decode b_Va_keepParameter 18 = .ok (.istore_n 3, 1) := by decide +kernel
theorem d_Va_keepParameter_19 : decode b_Va_keepParameter 19 = .ok (.iload_n 3, 1) := by decide +kernel
theorem d_Va_keepParameter_20 : decode b_Va_keepParameter 20 = .ok (.iload_n 2, 1) := by decide +kernel
theorem d_Va_keepParameter_21 : decode b_Va_keepParameter 21 = .ok (.if_icmp .gt 66, 3) := by decide +kernel
theorem d_Va_keepParameter_24 : decode b_Va_keepParameter 24 = .ok (.aload_n 0, 1) := by decide +kernel
theorem d_Va_keepParameter_25 : decode b_Va_keepParameter 25 = .ok (.bipush 59, 2) := by decide +kernel
theorem d_Va_keepParameter_27 : decode b_Va_keepParameter 27 = .ok (.iload_n 3, 1) := by decide +kernel
theorem d_Va_keepParameter_28 : decode b_Va_keepParameter 28 = .ok (.iload_n 2, 1) := by decide +kernel
theorem d_Va_keepParameter_29 : decode b_Va_keepParameter 29 = .ok (.invokevirtual 24, 3) := by decide +kernel
theorem d_Va_keepParameter_32 : decode b_Va_keepParameter 32 = .ok (.istore 4, 2) := by decide +kernel
theorem d_Va_keepParameter_34 : decode b_Va_keepParameter 34 = .ok (.aload_n 0, 1) := by decide +kernel
theorem d_Va_keepParameter_35 : decode b_Va_keepParameter 35 = .ok (.bipush 61, 2) := by decide +kernel
theorem d_Va_keepParameter_37 : decode b_Va_keepParameter 37 = .ok (.iload_n 3, 1) := by decide +kernel
theorem d_Va_keepParameter_38 : decode b_Va_keepParameter 38 = .ok (.iload 4, 2) := by decide +kernel
theorem d_Va_keepParameter_40 : decode b_Va_keepParameter 40 = .ok (.invokevirtual 24, 3) := by decide +kernel
theorem d_Va_keepParameter_43 : decode b_Va_keepParameter 43 = .ok (.istore 5, 2) := by decide +kernel
theorem d_Va_keepParameter_45 : decode b_Va_keepParameter 45 = .ok (.iload 5, 2) := by decide +kernel
theorem d_Va_keepParameter_47 : decode b_Va_keepParameter 47 = .ok (.iload 4, 2) := by decide +kernel
theorem d_Va_keepParameter_49 : decode b_Va_keepParameter 49 = .ok (.if_icmp .ge 30, 3) := by decide +kernel
theorem d_Va_keepParameter_52 : decode b_Va_keepParameter 52 = .ok (.aload_n 0, 1) := by decide +kernel
theorem d_Va_keepParameter_53 : decode b_Va_keepParameter 53 = .ok (.iload_n 3, 1) := by decide +kernel
theorem d_Va_keepParameter_54 : decode b_Va_keepParameter 54 = .ok (.iload 5, 2) := by decide +kernel
theorem d_Va_keepParameter_56 : decode b_Va_keepParameter 56 = .ok (.aload_n 1, 1) := by decide +kernel
theorem d_Va_keepParameter_57 : decode b_Va_keepParameter 57 = .ok (.invokevirtual 42, 3) := by decide +kernel
theorem d_Va_keepParameter_60 : decode b_Va_keepParameter 60 = .ok (.ifCond .eq 19, 3) := by decide +kernel
theorem d_Va_keepParameter_63 : decode b_Va_keepParameter 63 = .ok (.aload_n 0, 1) := by decide +kernel
theorem d_Va_keepParameter_64 : decode b_Va_keepParameter 64 = .ok (.iload 5, 2) := by decide +kernel
theorem d_Va_keepParameter_66 : decode b_Va_keepParameter 66 = .ok (.iconst 1, 1) := by decide +kernel
theorem d_Va_keepParameter_67 : decode b_Va_keepParameter 67 = .ok (.iadd, 1) := by decide +kernel
theorem d_Va_keepParameter_68 : decode b_Va_keepParameter 68 = .ok (.iload 4, 2) := by decide +kernel
theorem d_Va_keepParameter_70 : decode b_Va_keepParameter 70 = .ok (.invokevirtual 28, 3) := by decide +kernel
theorem d_Va_keepParameter_73 : decode b_Va_keepParameter 73 = .ok (.aload_n 0, 1) := by decide +kernel
theorem d_Va_keepParameter_74 : decode b_Va_keepParameter 74 = .ok (.invokevirtual 46, 3) := by decide +kernel
theorem d_Va_keepParameter_77 : decode b_Va_keepParameter 77 = .ok (.iconst 1, 1) := by decide +kernel
theorem d_Va_keepParameter_78 : decode b_Va_keepParameter 78 = .ok (.ireturn, 1) := by decide +kernel
theorem d_Va_keepParameter_79 : decode b_Va_keepParameter 79 = .ok (.iload 4, 2) := by decide +kernel
theorem d_Va_keepParameter_81 : decode b_Va_keepParameter 81 = .ok (.iconst 1, 1) := by decide +kernel
theorem d_Va_keepParameter_82 : decode b_Va_keepParameter 82 = .ok (.iadd, 1) := by decide +kernel
theorem d_Va_keepParameter_83 : decode b_Va_keepParameter 83 = .ok (.istore_n 3, 1) := by decide +kernel
theorem d_Va_keepParameter_84 : decode b_Va_keepParameter 84 = .ok (.goto (-65), 3) := by decide +kernel
theorem d_Va_keepParameter_87 : decode b_Va_keepParameter 87 = .ok (.aload_n 0, 1) := by decide +kernel
theorem d_Va_keepParameter_88 : decode b_Va_keepParameter 88 = .ok (.getfield 14, 3) := by decide +kernel
theorem d_Va_keepParameter_91 : decode b_Va_keepParameter 91 = .ok (.invokevirtual 49, 3) := by decide +kernel
theorem d_Va_keepParameter_94 : decode b_Va_keepParameter 94 = .ok (.iconst 0, 1) := by decide +kernel
theorem d_Va_keepParameter_95 : decode b_Va_keepParameter 95 = .ok (.ireturn, 1) := by decide +kernel
theorem d_Va_isType_0 : decode b_Va_isType 0 = .ok (.iconst 0, 1) := by decide +kernel
theorem d_Va_isType_1 : decode b_Va_isType 1 = .ok (.istore_n 1, 1) := by decide +kernel
theorem d_Va_isType_2 : decode b_Va_isType 2 = .ok (.iconst 0, 1) := by decide +kernel
theorem d_Va_isType_3 : decode b_Va_isType 3 = .ok (.istore_n 2, 1) := by decide +kernel
theorem d_Va_isType_4 : decode b_Va_isType 4 = .ok (.iload_n 2, 1) := by decide +kernel
theorem d_Va_isType_5 : decode b_Va_isType 5 = .ok (.aload_n 0, 1) := by decide +kernel
theorem d_Va_isType_6 : decode b_Va_isType 6 = .ok (.getfield 14, 3) := by decide +kernel
theorem d_Va_isType_9 : decode b_Va_isType 9 = .ok (.getfield 20, 3) := by decide +kernel
theorem d_Va_isType_12 : decode b_Va_isType 12 = .ok (.if_icmp .ge 60, 3) := by decide +kernel
theorem d_Va_isType_15 : decode b_Va_isType 15 = .ok (.aload_n 0, 1) := by decide +kernel
theorem d_Va_isType_16 : decode b_Va_isType 16 = .ok (.getfield 14, 3) := by decide +kernel
theorem d_Va_isType_19 : decode b_Va_isType 19 = .ok (.iload_n 2, 1) := by decide +kernel
theorem d_Va_isType_20 : decode b_Va_isType 20 = .ok (.invokevirtual 32, 3) := by decide +kernel
theorem d_Va_isType_23 : decode b_Va_isType 23 = .ok (.istore_n 3, 1) := by decide +kernel
theorem d_Va_isType_24 : decode b_Va_isType 24 = .ok (.iload_n 3, 1) := by decide +kernel
theorem d_Va_isType_25 : decode b_Va_isType 25 = .ok (.invokestatic 52, 3) := by decide +kernel
theorem d_Va_isType_28 : decode b_Va_isType 28 = .ok (.ifCond .eq 5, 3) := by decide +kernel
theorem d_Va_isType_31 : decode b_Va_isType 31 = .ok (.iconst 0, 1) := by decide +kernel
theorem d_Va_isType_32 : decode b_Va_isType 32 = .ok (.ireturn, 1) := by decide +kernel
theorem d_Va_isType_33 : decode b_Va_isType 33 = .ok (.iload_n 1, 1) := by decide +kernel
theorem d_Va_isType_34 : decode b_Va_isType 34 = .ok (.ifCond .ne 26, 3) := by decide +kernel
theorem d_Va_isType_37 : decode b_Va_isType 37 = .ok (.iload_n 3, 1) := by decide +kernel
theorem d_Va_isType_38 : decode b_Va_isType 38 = .ok (.bipush 47, 2) := by decide +kernel
theorem d_Va_isType_40 : decode b_Va_isType 40 = .ok (.if_icmp .ne 24, 3) := by decide +kernel
theorem d_Va_isType_43 : decode b_Va_isType 43 = .ok (.iload_n 2, 1) := by decide +kernel
theorem d_Va_isType_44 : decode b_Va_isType 44 = .ok (.ifCond .le 20, 3) := by decide +kernel
theorem d_Va_isType_47 : decode b_Va_isType 47 = .ok (.iload_n 2, 1) := by decide +kernel
theorem d_Va_isType_48 : decode b_Va_isType 48 = .ok (.aload_n 0, 1) := by decide +kernel
theorem d_Va_isType_49 : decode b_Va_isType 49 = .ok (.getfield 14, 3) := by decide +kernel
theorem d_Va_isType_52 : decode b_Va_isType 52 = .ok (.getfield 20, 3) := by decide +kernel
theorem d_Va_isType_55 : decode b_Va_isType 55 = .ok (.iconst 1, 1) := by decide +kernel
theorem d_Va_isType_56 : decode b_Va_isType 56 = .ok (.isub, 1) := by decide +kernel
theorem d_Va_isType_57 : decode b_Va_isType 57 = .ok (.if_icmp .ge 7, 3) := by decide +kernel
theorem d_Va_isType_60 : decode b_Va_isType 60 = .ok (.iconst 1, 1) := by decide +kernel
theorem d_Va_isType_61 : decode b_Va_isType 61 = .ok (.goto 4, 3) := by decide +kernel
theorem d_Va_isType_64 : decode b_Va_isType 64 = .ok (.iconst 0, 1) := by decide +kernel
theorem d_Va_isType_65 : decode b_Va_isType 65 = .ok (.istore_n 1, 1) := by decide +kernel
theorem d_Va_isType_66 : decode b_Va_isType 66 = .ok (.iinc 2 1, 3) := by decide +kernel
theorem d_Va_isType_69 : decode b_Va_isType 69 = .ok (.goto (-65), 3) := by decide +kernel
theorem d_Va_isType_72 : decode b_Va_isType 72 = .ok (.iload_n 1, 1) := by decide +kernel
theorem d_Va_isType_73 : decode b_Va_isType 73 = .ok (.ireturn, 1) := by decide +kernel
theorem d_Va_find_0 : decode b_Va_find 0 = .ok (.iconst 0, 1) := by decide +kernel
theorem d_Va_find_1 : decode b_Va_find 1 = .ok (.istore 4, 2) := by decide +kernel
theorem d_Va_find_3 : decode b_Va_find 3 = .ok (.iload_n 2, 1) := by decide +kernel
theorem d_Va_find_4 : decode b_Va_find 4 = .ok (.istore 5, 2) := by decide +kernel
theorem d_Va_find_6 : decode b_Va_find 6 = .ok (.iload 5, 2) := by decide +kernel
theorem d_Va_find_8 : decode b_Va_find 8 = .ok (.iload_n 3, 1) := by decide +kernel
theorem d_Va_find_9 : decode b_Va_find 9 = .ok (.if_icmp .ge 71, 3) := by decide +kernel
theorem d_Va_find_12 : decode b_Va_find 12 = .ok (.aload_n 0, 1) := by decide +kernel
theorem d_Va_find_13 : decode b_Va_find 13 = .ok (.getfield 14, 3) := by decide +kernel
theorem d_Va_find_16 : decode b_Va_find 16 = .ok (.iload 5, 2) := by decide +kernel
theorem d_Va_find_18 : decode b_Va_find 18 = .ok (.invokevirtual 32, 3) := by decide +kernel
theorem d_Va_find_21 : decode b_Va_find 21 = .ok (.istore 6, 2) := by decide +kernel
theorem d_Va_find_23 : decode b_Va_find 23 = .ok (.iload 6, 2) := by decide +kernel
theorem d_Va_find_25 : decode b_Va_find 25 = .ok (.iload_n 1, 1) := by decide +kernel
theorem d_Va_find_26 : decode b_Va_find 26 = .ok (.if_icmp .ne 11, 3) := by decide +kernel
theorem d_Va_find_29 : decode b_Va_find 29 = .ok (.iload 4, 2) := by decide +kernel
theorem d_Va_find_31 : decode b_Va_find 31 = .ok (.ifCond .ne 6, 3) := by decide +kernel
theorem d_Va_find_34 : decode b_Va_find 34 = .ok (.iload 5, 2) := by decide +kernel
theorem d_Va_find_36 : decode b_Va_find 36 = .ok (.ireturn, 1) := by decide +kernel
theorem d_Va_find_37 : decode b_Va_find 37 = .ok (.iload 6, 2) := by decide +kernel
theorem d_Va_find_39 : decode b_Va_find 39 = .ok (.bipush 34, 2) := by decide +kernel
theorem d_Va_find_41 : decode b_Va_find 41 = .ok (.if_icmp .ne 18, 3) := by decide +kernel
theorem d_Va_find_44 : decode b_Va_find 44 = .ok (.iload 4, 2) := by decide +kernel
theorem d_Va_find_46 : decode b_Va_find 46 = .ok (.ifCond .ne 7, 3) := by decide +kernel
theorem d_Va_find_49 : decode b_Va_find 49 = .ok (.iconst 1, 1) := by decide +kernel
theorem d_Va_find_50 : decode b_Va_find 50 = .ok (.goto 4, 3) := by decide +kernel
theorem d_Va_find_53 : decode b_Va_find 53 = .ok (.iconst 0, 1) := by decide +kernel
theorem d_Va_find_54 : decode b_Va_find 54 = .ok (.istore 4, 2) := by decide +kernel
theorem d_Va_find_56 : decode b_Va_find 56 = .ok (.goto 18, 3) := by decide +kernel
theorem d_Va_find_59 : decode b_Va_find 59 = .ok (.iload 6, 2) := by decide +kernel
theorem d_Va_find_61 : decode b_Va_find 61 = .ok (.bipush 92, 2) := by decide +kernel
theorem d_Va_find_63 : decode b_Va_find 63 = .ok (.if_icmp .ne 11, 3) := by decide +kernel
theorem d_Va_find_66 : decode b_Va_find 66 = .ok (.iload 4, 2) := by decide +kernel
theorem d_Va_find_68 : decode b_Va_find 68 = .ok (.ifCond .eq 6, 3) := by decide +kernel
theorem d_Va_find_71 : decode b_Va_find 71 = .ok (.iinc 5 1, 3) := by decide +kernel
theorem d_Va_find_74 : decode b_Va_find 74 = .ok (.iinc 5 1, 3) := by decide +kernel
theorem d_Va_find_77 : decode b_Va_find 77 = .ok (.goto (-71), 3) := by decide +kernel
theorem d_Va_find_80 : decode b_Va_find 80 = .ok (.iload_n 3, 1) := by decide +kernel
theorem d_Va_find_81 : decode b_Va_find 81 = .ok (.ireturn, 1) := by decide +kernel
theorem d_Va_isNamed_0 : decode b_Va_isNamed 0 = .ok (.aload_n 0, 1) := by decide +kernel
theorem d_Va_isNamed_1 : decode b_Va_isNamed 1 = .ok (.iload_n 1, 1) := by decide +kernel
theorem d_Va_isNamed_2 : decode b_Va_isNamed 2 = .ok (.iload_n 2, 1) := by decide +kernel
theorem d_Va_isNamed_3 : decode b_Va_isNamed 3 = .ok (.invokevirtual 56, 3) := by decide +kernel
theorem d_Va_isNamed_6 : decode b_Va_isNamed 6 = .ok (.istore 4, 2) := by decide +kernel
theorem d_Va_isNamed_8 : decode b_Va_isNamed 8 = .ok (.aload_n 0, 1) := by decide +kernel
theorem d_Va_isNamed_9 : decode b_Va_isNamed 9 = .ok (.iload 4, 2) := by decide +kernel
theorem d_Va_isNamed_11 : decode b_Va_isNamed 11 = .ok (.iload_n 2, 1) := by decide +kernel
theorem d_Va_isNamed_12 : decode b_Va_isNamed 12 = .ok (.invokevirtual 60, 3) := by decide +kernel
theorem d_Va_isNamed_15 : decode b_Va_isNamed 15 = .ok (.iload 4, 2) := by decide +kernel
theorem d_Va_isNamed_17 : decode b_Va_isNamed 17 = .ok (.isub, 1) := by decide +kernel
theorem d_Va_isNamed_18 : decode b_Va_isNamed 18 = .ok (.aload_n 3, 1) := by decide +kernel
theorem d_Va_isNamed_19 : decode b_Va_isNamed 19 = .ok (.getfield 20, 3) := by decide +kernel
theorem d_Va_isNamed_22 : decode b_Va_isNamed 22 = .ok (.if_icmp .ne 20, 3) := by decide +kernel
theorem d_Va_isNamed_25 : decode b_Va_isNamed 25 = .ok (.aload_n 0, 1) := by decide +kernel
theorem d_Va_isNamed_26 : decode b_Va_isNamed 26 = .ok (.getfield 14, 3) := by decide +kernel
theorem d_Va_isNamed_29 : decode b_Va_isNamed 29 = .ok (.iload 4, 2) := by decide +kernel
theorem d_Va_isNamed_31 : decode b_Va_isNamed 31 = .ok (.aload_n 3, 1) := by decide +kernel
theorem d_Va_isNamed_32 : decode b_Va_isNamed 32 = .ok (.invokevirtual 63, 3) := by decide +kernel
theorem d_Va_isNamed_35 : decode b_Va_isNamed 35 = .ok (.ifCond .eq 7, 3) := by decide +kernel
theorem d_Va_isNamed_38 : decode b_Va_isNamed 38 = .ok (.iconst 1, 1) := by decide +kernel
theorem d_Va_isNamed_39 : decode b_Va_isNamed 39 = .ok (.goto 4, 3) := by decide +kernel
theorem d_Va_isNamed_42 : decode b_Va_isNamed 42 = .ok (.iconst 0, 1) := by decide +kernel
theorem d_Va_isNamed_43 : decode b_Va_isNamed 43 = .ok (.ireturn, 1) := by decide +kernel
theorem d_Va_behindBlanks_0 : decode b_Va_behindBlanks 0 = .ok (.iload_n 1, 1) := by decide +kernel
theorem d_Va_behindBlanks_1 : decode b_Va_behindBlanks 1 = .ok (.istore_n 3, 1) := by decide +kernel
theorem d_Va_behindBlanks_2 : decode b_Va_behindBlanks 2 = .ok (.iload_n 3, 1) := by decide +kernel
theorem d_Va_behindBlanks_3 : decode b_Va_behindBlanks 3 = .ok (.iload_n 2, 1) := by decide +kernel
theorem d_Va_behindBlanks_4 : decode b_Va_behindBlanks 4 = .ok (.if_icmp .ge 23, 3) := by decide +kernel
theorem d_Va_behindBlanks_7 : decode b_Va_behindBlanks 7 = .ok (.aload_n 0, 1) := by decide +kernel
theorem d_Va_behindBlanks_8 : decode b_Va_behindBlanks 8 = .ok (.getfield 14, 3) := by decide +kernel
theorem d_Va_behindBlanks_11 : decode b_Va_behindBlanks 11 = .ok (.iload_n 3, 1) := by decide +kernel
theorem d_Va_behindBlanks_12 : decode b_Va_behindBlanks 12 = .ok (.invokevirtual 32, 3) := by decide +kernel
theorem d_Va_behindBlanks_15 : decode b_Va_behindBlanks 15 = .ok (.invokestatic 52, 3) := by decide +kernel
theorem d_Va_behindBlanks_18 : decode b_Va_behindBlanks 18 = .ok (.ifCond .eq 9, 3) := by decide +kernel
theorem d_Va_behindBlanks_21 : decode b_Va_behindBlanks 21 = .ok (.iinc 3 1, 3) := by decide +kernel
theorem d_Va_behindBlanks_24 : decode b_Va_behindBlanks 24 = .ok (.goto (-22), 3) := by decide +kernel
theorem d_Va_behindBlanks_27 : decode b_Va_behindBlanks 27 = .ok (.iload_n 3, 1) := by decide +kernel
theorem d_Va_behindBlanks_28 : decode b_Va_behindBlanks 28 = .ok (.ireturn, 1) := by decide +kernel
theorem d_Va_aheadOfBlanks_0 : decode b_Va_aheadOfBlanks 0 = .ok (.iload_n 2, 1) := by decide +kernel
theorem d_Va_aheadOfBlanks_1 : decode b_Va_aheadOfBlanks 1 = .ok (.istore_n 3, 1) := by decide +kernel
theorem d_Va_aheadOfBlanks_2 : decode b_Va_aheadOfBlanks 2 = .ok (.iload_n 3, 1) := by decide +kernel
theorem d_Va_aheadOfBlanks_3 : decode b_Va_aheadOfBlanks 3 = .ok (.iload_n 1, 1) := by decide +kernel
theorem d_Va_aheadOfBlanks_4 : decode b_Va_aheadOfBlanks 4 = .ok (.if_icmp .le 25, 3) := by decide +kernel
theorem d_Va_aheadOfBlanks_7 : decode b_Va_aheadOfBlanks 7 = .ok (.aload_n 0, 1) := by decide +kernel
theorem d_Va_aheadOfBlanks_8 : decode b_Va_aheadOfBlanks 8 = .ok (.getfield 14, 3) := by decide +kernel
theorem d_Va_aheadOfBlanks_11 : decode b_Va_aheadOfBlanks 11 = .ok (.iload_n 3, 1) := by decide +kernel
theorem d_Va_aheadOfBlanks_12 : decode b_Va_aheadOfBlanks 12 = .ok (.iconst 1, 1) := by decide +kernel
theorem d_Va_aheadOfBlanks_13 : decode b_Va_aheadOfBlanks 13 = .ok (.isub, 1) := by decide +kernel
theorem d_Va_aheadOfBlanks_14 : decode b_Va_aheadOfBlanks 14 = .ok (.invokevirtual 32, 3) := by decide +kernel
theorem d_Va_aheadOfBlanks_17 : decode b_Va_aheadOfBlanks 17 = .ok (.invokestatic 52, 3) := by decide +kernel
theorem d_Va_aheadOfBlanks_20 : decode b_Va_aheadOfBlanks 20 = .ok (.ifCond .eq 9, 3) := by decide +kernel
theorem d_Va_aheadOfBlanks_23 : decode b_Va_aheadOfBlanks 23 = .ok (.iinc 3 (-1), 3) := by decide +kernel
theorem d_Va_aheadOfBlanks_26 : decode b_Va_aheadOfBlanks 26 = .ok (.goto (-24), 3) := by decide +kernel
theorem d_Va_aheadOfBlanks_29 : decode b_Va_aheadOfBlanks 29 = .ok (.iload_n 3, 1) := by decide +kernel
theorem d_Va_aheadOfBlanks_30 : decode b_Va_aheadOfBlanks 30 = .ok (.ireturn, 1) := by decide +kernel
theorem d_Va_keep_0 : decode b_Va_keep 0 = .ok (.aload_n 0, 1) := by decide +kernel
theorem d_Va_keep_1 : decode b_Va_keep 1 = .ok (.iload_n 1, 1) := by decide +kernel
theorem d_Va_keep_2 : decode b_Va_keep 2 = .ok (.iload_n 2, 1) := by decide +kernel
theorem d_Va_keep_3 : decode b_Va_keep 3 = .ok (.invokevirtual 56, 3) := by decide +kernel
theorem d_Va_keep_6 : decode b_Va_keep 6 = .ok (.istore_n 3, 1) := by decide +kernel
theorem d_Va_keep_7 : decode b_Va_keep 7 = .ok (.aload_n 0, 1) := by decide +kernel
theorem d_Va_keep_8 : decode b_Va_keep 8 = .ok (.iload_n 3, 1) := by decide +kernel
theorem d_Va_keep_9 : decode b_Va_keep 9 = .ok (.iload_n 2, 1) := by decide +kernel
theorem d_Va_keep_10 : decode b_Va_keep 10 = .ok (.invokevirtual 60, 3) := by decide +kernel
theorem d_Va_keep_13 : decode b_Va_keep 13 = .ok (.istore 4, 2) := by decide +kernel
theorem d_Va_keep_15 : decode b_Va_keep 15 = .ok (.iload_n 3, 1) := by decide +kernel
theorem d_Va_keep_16 : decode b_Va_keep 16 = .ok (.istore 5, 2) := by decide +kernel
theorem d_Va_keep_18 : decode b_Va_keep 18 = .ok (.iload 5, 2) := by decide +kernel
theorem d_Va_keep_20 : decode b_Va_keep 20 = .ok (.iload 4, 2) := by decide +kernel
theorem d_Va_keep_22 : decode b_Va_keep 22 = .ok (.if_icmp .ge 29, 3) := by decide +kernel
theorem d_Va_keep_25 : decode b_Va_keep 25 = .ok (.aload_n 0, 1) := by decide +kernel
theorem d_Va_keep_26 : decode b_Va_keep 26 = .ok (.getfield 14, 3) := by decide +kernel
theorem d_Va_keep_29 : decode b_Va_keep 29 = .ok (.iload 5, 2) := by decide +kernel
theorem d_Va_keep_31 : decode b_Va_keep 31 = .ok (.iload_n 3, 1) := by decide +kernel
theorem d_Va_keep_32 : decode b_Va_keep 32 = .ok (.isub, 1) := by decide +kernel
theorem d_Va_keep_33 : decode b_Va_keep 33 = .ok (.aload_n 0, 1) := by decide +kernel
theorem d_Va_keep_34 : decode b_Va_keep 34 = .ok (.getfield 14, 3) := by decide +kernel
theorem d_Va_keep_37 : decode b_Va_keep 37 = .ok (.iload 5, 2) := by decide +kernel
theorem d_Va_keep_39 : decode b_Va_keep 39 = .ok (.invokevirtual 32, 3) := by decide +kernel
theorem d_Va_keep_42 : decode b_Va_keep 42 = .ok (.invokevirtual 39, 3) := by decide +kernel
theorem d_Va_keep_45 : decode b_Va_keep 45 = .ok (.iinc 5 1, 3) := by decide +kernel
theorem d_Va_keep_48 : decode b_Va_keep 48 = .ok (.goto (-30), 3) := by decide +kernel
theorem d_Va_keep_51 : decode b_Va_keep 51 = .ok (.aload_n 0, 1) := by decide +kernel
theorem d_Va_keep_52 : decode b_Va_keep 52 = .ok (.getfield 14, 3) := by decide +kernel
theorem d_Va_keep_55 : decode b_Va_keep 55 = .ok (.iload 4, 2) := by decide +kernel
theorem d_Va_keep_57 : decode b_Va_keep 57 = .ok (.iload_n 3, 1) := by decide +kernel
theorem d_Va_keep_58 : decode b_Va_keep 58 = .ok (.isub, 1) := by decide +kernel
theorem d_Va_keep_59 : decode b_Va_keep 59 = .ok (.invokevirtual 67, 3) := by decide +kernel
theorem d_Va_keep_62 : decode b_Va_keep 62 = .ok (.return_, 1) := by decide +kernel
theorem d_Va_unquote_0 : decode b_Va_unquote 0 = .ok (.aload_n 0, 1) := by decide +kernel
theorem d_Va_unquote_1 : decode b_Va_unquote 1 = .ok (.getfield 14, 3) := by decide +kernel
theorem d_Va_unquote_4 : decode b_Va_unquote 4 = .ok (.iconst 0, 1) := by decide +kernel
theorem d_Va_unquote_5 : decode b_Va_unquote 5 = .ok (.invokevirtual 32, 3) := by decide +kernel
theorem d_Va_unquote_8 : decode b_Va_unquote 8 = .ok (.bipush 34, 2) := by decide +kernel
theorem d_Va_unquote_10 : decode b_Va_unquote 10 = .ok (.if_icmp .ne 10, 3) := by decide +kernel
theorem d_Va_unquote_13 : decode b_Va_unquote 13 = .ok (.aload_n 0, 1) := by decide +kernel
theorem d_Va_unquote_14 : decode b_Va_unquote 14 = .ok (.invokevirtual 70, 3) := by decide +kernel
theorem d_Va_unquote_17 : decode b_Va_unquote 17 = .ok (.goto 4, 3) := by decide +kernel
theorem d_Va_unquote_20 : decode b_Va_unquote 20 = .ok (.iconst (-1), 1) := by decide +kernel
theorem d_Va_unquote_21 : decode b_Va_unquote 21 = .ok (.istore_n 1, 1) := by decide +kernel
theorem d_Va_unquote_22 : decode b_Va_unquote 22 = .ok (.iload_n 1, 1) := by decide +kernel
theorem d_Va_unquote_23 : decode b_Va_unquote 23 = .ok (.iconst (-1), 1) := by decide +kernel
theorem d_Va_unquote_24 : decode b_Va_unquote 24 = .ok (.if_icmp .ne 4, 3) := by decide +kernel
theorem d_Va_unquote_27 : decode b_Va_unquote 27 = .ok (.return_, 1) := by decide +kernel
theorem d_Va_unquote_28 : decode b_Va_unquote 28 = .ok (.iconst 0, 1) := by decide +kernel
theorem d_Va_unquote_29 : decode b_Va_unquote 29 = .ok (.istore_n 2, 1) := by decide +kernel
theorem d_Va_unquote_30 : decode b_Va_unquote 30 = .ok (.iconst 1, 1) := by decide +kernel
theorem d_Va_unquote_31 : decode b_Va_unquote 31 = .ok (.istore_n 3, 1) := by decide +kernel
theorem d_Va_unquote_32 : decode b_Va_unquote 32 = .ok (.iload_n 3, 1) := by decide +kernel
theorem d_Va_unquote_33 : decode b_Va_unquote 33 = .ok (.iload_n 1, 1) := by decide +kernel
theorem d_Va_unquote_34 : decode b_Va_unquote 34 = .ok (.if_icmp .ge 44, 3) := by decide +kernel
theorem d_Va_unquote_37 : decode b_Va_unquote 37 = .ok (.aload_n 0, 1) := by decide +kernel
theorem d_Va_unquote_38 : decode b_Va_unquote 38 = .ok (.getfield 14, 3) := by decide +kernel
theorem d_Va_unquote_41 : decode b_Va_unquote 41 = .ok (.iload_n 3, 1) := by decide +kernel
theorem d_Va_unquote_42 : decode b_Va_unquote 42 = .ok (.invokevirtual 32, 3) := by decide +kernel
theorem d_Va_unquote_45 : decode b_Va_unquote 45 = .ok (.bipush 92, 2) := by decide +kernel
theorem d_Va_unquote_47 : decode b_Va_unquote 47 = .ok (.if_icmp .ne 6, 3) := by decide +kernel
theorem d_Va_unquote_50 : decode b_Va_unquote 50 = .ok (.iinc 3 1, 3) := by decide +kernel
theorem d_Va_unquote_53 : decode b_Va_unquote 53 = .ok (.aload_n 0, 1) := by decide +kernel
theorem d_Va_unquote_54 : decode b_Va_unquote 54 = .ok (.getfield 14, 3) := by decide +kernel
theorem d_Va_unquote_57 : decode b_Va_unquote 57 = .ok (.iload_n 2, 1) := by decide +kernel
theorem d_Va_unquote_58 : decode b_Va_unquote 58 = .ok (.aload_n 0, 1) := by decide +kernel
theorem d_Va_unquote_59 : decode b_Va_unquote 59 = .ok (.getfield 14, 3) := by decide +kernel
theorem d_Va_unquote_62 : decode b_Va_unquote 62 = .ok (.iload_n 3, 1) := by decide +kernel
theorem d_Va_unquote_63 : decode b_Va_unquote 63 = .ok (.invokevirtual 32, 3) := by decide +kernel
theorem d_Va_unquote_66 : decode b_Va_unquote 66 = .ok (.invokevirtual 39, 3) := by decide +kernel
theorem d_Va_unquote_69 : decode b_Va_unquote 69 = .ok (.iinc 2 1, 3) := by decide +kernel
theorem d_Va_unquote_72 : decode b_Va_unquote 72 = .ok (.iinc 3 1, 3) := by decide +kernel
theorem d_Va_unquote_75 : decode b_Va_unquote 75 = .ok (.goto (-43), 3) := by decide +kernel
theorem d_Va_unquote_78 : decode b_Va_unquote 78 = .ok (.aload_n 0, 1) := by decide +kernel
theorem d_Va_unquote_79 : decode b_Va_unquote 79 = .ok (.getfield 14, 3) := by decide +kernel
theorem d_Va_unquote_82 : decode b_Va_unquote 82 = .ok (.iload_n 2, 1) := by decide +kernel
theorem d_Va_unquote_83 : decode b_Va_unquote 83 = .ok (.invokevirtual 67, 3) := by decide +kernel
theorem d_Va_unquote_86 : decode b_Va_unquote 86 = .ok (.return_, 1) := by decide +kernel
end
section
theorem d_Va_closing_0 : decode b_Va_closing 0 = .ok (.iconst 1, 1) := by decide +kernel
theorem d_Va_closing_1 : decode b_Va_closing 1 = .ok (.istore_n 1, 1) := by decide +kernel
theorem d_Va_closing_2 : decode b_Va_closing 2 = .ok (.iload_n 1, 1) := by decide +kernel
theorem d_Va_closing_3 : decode b_Va_closing 3 = .ok (.aload_n 0, 1) := by decide +kernel
theorem d_Va_closing_4 : decode b_Va_closing 4 = .ok (.getfield 14, 3) := by decide +kernel
theorem d_Va_closing_7 : decode b_Va_closing 7 = .ok (.getfield 20, 3) := by decide +kernel
theorem d_Va_closing_10 : decode b_Va_closing 10 = .ok (.if_icmp .ge 35, 3) := by decide +kernel
theorem d_Va_closing_13 : decode b_Va_closing 13 = .ok (.aload_n 0, 1) := by decide +kernel
theorem d_Va_closing_14 : decode b_Va_closing 14 = .ok (.getfield 14, 3) := by decide +kernel
theorem d_Va_closing_17 : decode b_Va_closing 17 = .ok (.iload_n 1, 1) := by decide +kernel
theorem d_Va_closing_18 : decode b_Va_closing 18 = .ok (.invokevirtual 32, 3) := by decide +kernel
theorem d_Va_closing_21 : decode b_Va_closing 21 = .ok (.istore_n 2, 1) := by decide +kernel
theorem d_Va_closing_22 : decode b_Va_closing 22 = .ok (.iload_n 2, 1) := by decide +kernel
theorem d_Va_closing_23 : decode b_Va_closing 23 = .ok (.bipush 34, 2) := by decide +kernel
theorem d_Va_closing_25 : decode b_Va_closing 25 = .ok (.if_icmp .ne 5, 3) := by decide +kernel
theorem d_Va_closing_28 : decode b_Va_closing 28 = .ok (.iload_n 1, 1) := by decide +kernel
theorem d_Va_closing_29 : decode b_Va_closing 29 = .ok (.ireturn, 1) := by decide +kernel
theorem d_Va_closing_30 : decode b_Va_closing 30 = .ok (.iload_n 2, 1) := by decide +kernel
theorem d_Va_closing_31 : decode b_Va_closing 31 = .ok (.bipush 92, 2) := by decide +kernel
theorem d_Va_closing_33 : decode b_Va_closing 33 = .ok (.if_icmp .ne 6, 3) := by decide +kernel
theorem d_Va_closing_36 : decode b_Va_closing 36 = .ok (.iinc 1 1, 3) := by decide +kernel
theorem d_Va_closing_39 : decode b_Va_closing 39 = .ok (.iinc 1 1, 3) := by decide +kernel
theorem d_Va_closing_42 : decode b_Va_closing 42 = .ok (.goto (-40), 3) := by decide +kernel
theorem d_Va_closing_45 : decode b_Va_closing 45 = .ok (.iconst (-1), 1) := by decide +kernel
theorem d_Va_closing_46 : decode b_Va_closing 46 = .ok (.ireturn, 1) := by decide +kernel
end
section
theorem d_La_law_0 : decode code 0 = .ok (.new 7, 3) := by decide +kernel
theorem d_La_law_3 : decode code 3 = .ok (.dup, 1) := by decide +kernel
theorem d_La_law_4 : decode code 4 = .ok (.invokespecial 9, 3) := by decide +kernel
theorem d_La_law_7 : decode code 7 = .ok (.astore_n 1, 1) := by decide +kernel
theorem d_La_law_8 : decode code 8 = .ok (.new 10, 3) := by decide +kernel
theorem d_La_law_11 : decode code 11 = .ok (.dup, 1) := by decide +kernel
theorem d_La_law_12 : decode code 12 = .ok (.invokespecial 12, 3) := by decide +kernel
theorem d_La_law_15 : decode code 15 = .ok (.astore_n 2, 1) := by decide +kernel
theorem d_La_law_16 : decode code 16 = .ok (.iconst 0, 1) := by decide +kernel
theorem d_La_law_17 : decode code 17 = .ok (.istore_n 3, 1) := by decide +kernel
theorem d_La_law_18 : decode code 18 = .ok (.iload_n 3, 1) := by decide +kernel
theorem d_La_law_19 : decode code 19 = .ok (.aload_n 0, 1) := by decide +kernel
theorem d_La_law_20 : decode code 20 = .ok (.arraylength, 1) := by decide +kernel
theorem d_La_law_21 : decode code 21 = .ok (.bipush 6, 2) := by decide +kernel
theorem d_La_law_23 : decode code 23 = .ok (.isub, 1) := by decide +kernel
theorem d_La_law_24 : decode code 24 = .ok (.if_icmp .gt 458, 3) := by decide +kernel
theorem d_La_law_27 : decode code 27 = .ok (.aload_n 0, 1) := by decide +kernel
theorem d_La_law_28 : decode code 28 = .ok (.iload_n 3, 1) := by decide +kernel
theorem d_La_law_29 : decode code 29 = .ok (.iaload, 1) := by decide +kernel
theorem d_La_law_30 : decode code 30 = .ok (.bipush 15, 2) := by decide +kernel
theorem d_La_law_32 : decode code 32 = .ok (.iand, 1) := by decide +kernel
theorem d_La_law_33 : decode code 33 = .ok (.tableswitch 443 0 11 #[63, 124, 147, 160, 193, 226, 269, 292, 315, 338, 387, 420], 63) := by decide +kernel
theorem d_La_law_96 : decode code 96 = .ok (.aload_n 1, 1) := by decide +kernel
theorem d_La_law_97 : decode code 97 = .ok (.aload_n 0, 1) := by decide +kernel
theorem d_La_law_98 : decode code 98 = .ok (.iload_n 3, 1) := by decide +kernel
theorem d_La_law_99 : decode code 99 = .ok (.iconst 1, 1) := by decide +kernel
theorem d_La_law_100 : decode code 100 = .ok (.iadd, 1) := by decide +kernel
theorem d_La_law_101 : decode code 101 = .ok (.iaload, 1) := by decide +kernel
theorem d_La_law_102 : decode code 102 = .ok (.aload_n 0, 1) := by decide +kernel
theorem d_La_law_103 : decode code 103 = .ok (.iload_n 3, 1) := by decide +kernel
theorem d_La_law_104 : decode code 104 = .ok (.iconst 2, 1) := by decide +kernel
theorem d_La_law_105 : decode code 105 = .ok (.iadd, 1) := by decide +kernel
theorem d_La_law_106 : decode code 106 = .ok (.iaload, 1) := by decide +kernel
theorem d_La_law_107 : decode code 107 = .ok (.aload_n 0, 1) := by decide +kernel
theorem d_La_law_108 : decode code 108 = .ok (.iload_n 3, 1) := by decide +kernel
theorem d_La_law_109 : decode code 109 = .ok (.iconst 3, 1) := by decide +kernel
theorem d_La_law_110 : decode code 110 = .ok (.iadd, 1) := by decide +kernel
theorem d_La_law_111 : decode code 111 = .ok (.iaload, 1) := by decide +kernel
theorem d_La_law_112 : decode code 112 = .ok (.aload_n 0, 1) := by decide +kernel
theorem d_La_law_113 : decode code 113 = .ok (.iload_n 3, 1) := by decide +kernel
theorem d_La_law_114 : decode code 114 = .ok (.iconst 4, 1) := by decide +kernel
theorem d_La_law_115 : decode code 115 = .ok (.iadd, 1) := by decide +kernel
theorem d_La_law_116 : decode code 116 = .ok (.iaload, 1) := by decide +kernel
theorem d_La_law_117 : decode code 117 = .ok (.aload_n 0, 1) := by decide +kernel
theorem d_La_law_118 : decode code 118 = .ok (.iload_n 3, 1) := by decide +kernel
theorem d_La_law_119 : decode code 119 = .ok (.iconst 5, 1) := by decide +kernel
theorem d_La_law_120 : decode code 120 = .ok (.iadd, 1) := by decide +kernel
theorem d_La_law_121 : decode code 121 = .ok (.iaload, 1) := by decide +kernel
theorem d_La_law_122 : decode code 122 = .ok (.invokevirtual 13, 3) := by decide +kernel
theorem d_La_law_125 : decode code 125 = .ok (.aload_n 2, 1) := by decide +kernel
theorem d_La_law_126 : decode code 126 = .ok (.aload_n 0, 1) := by decide +kernel
theorem d_La_law_127 : decode code 127 = .ok (.iload_n 3, 1) := by decide +kernel
theorem d_La_law_128 : decode code 128 = .ok (.iconst 1, 1) := by decide +kernel
theorem d_La_law_129 : decode code 129 = .ok (.iadd, 1) := by decide +kernel
theorem d_La_law_130 : decode code 130 = .ok (.iaload, 1) := by decide +kernel
theorem d_La_law_131 : decode code 131 = .ok (.aload_n 0, 1) := by decide +kernel
theorem d_La_law_132 : decode code 132 = .ok (.iload_n 3, 1) := by decide +kernel
theorem d_La_law_133 : decode code 133 = .ok (.iconst 2, 1) := by decide +kernel
theorem d_La_law_134 : decode code 134 = .ok (.iadd, 1) := by decide +kernel
theorem d_La_law_135 : decode code 135 = .ok (.iaload, 1) := by decide +kernel
theorem d_La_law_136 : decode code 136 = .ok (.aload_n 0, 1) := by decide +kernel
theorem d_La_law_137 : decode code 137 = .ok (.iload_n 3, 1) := by decide +kernel
theorem d_La_law_138 : decode code 138 = .ok (.iconst 3, 1) := by decide +kernel
theorem d_La_law_139 : decode code 139 = .ok (.iadd, 1) := by decide +kernel
theorem d_La_law_140 : decode code 140 = .ok (.iaload, 1) := by decide +kernel
theorem d_La_law_141 : decode code 141 = .ok (.aload_n 0, 1) := by decide +kernel
theorem d_La_law_142 : decode code 142 = .ok (.iload_n 3, 1) := by decide +kernel
theorem d_La_law_143 : decode code 143 = .ok (.iconst 4, 1) := by decide +kernel
theorem d_La_law_144 : decode code 144 = .ok (.iadd, 1) := by decide +kernel
theorem d_La_law_145 : decode code 145 = .ok (.iaload, 1) := by decide +kernel
theorem d_La_law_146 : decode code 146 = .ok (.aload_n 0, 1) := by decide +kernel
theorem d_La_law_147 : decode code 147 = .ok (.iload_n 3, 1) := by decide +kernel
theorem d_La_law_148 : decode code 148 = .ok (.iconst 5, 1) := by decide +kernel
theorem d_La_law_149 : decode code 149 = .ok (.iadd, 1) := by decide +kernel
theorem d_La_law_150 : decode code 150 = .ok (.iaload, 1) := by decide +kernel
theorem d_La_law_151 : decode code 151 = .ok (.invokevirtual 17, 3) := by decide +kernel
theorem d_La_law_154 : decode code 154 = .ok (.goto 322, 3) := by decide +kernel
theorem d_La_law_157 : decode code 157 = .ok (.aload_n 1, 1) := by decide +kernel
theorem d_La_law_158 : decode code 158 = .ok (.aload_n 0, 1) := by decide +kernel
theorem d_La_law_159 : decode code 159 = .ok (.iload_n 3, 1) := by decide +kernel
theorem d_La_law_160 : decode code 160 = .ok (.iconst 1, 1) := by decide +kernel
theorem d_La_law_161 : decode code 161 = .ok (.iadd, 1) := by decide +kernel
theorem d_La_law_162 : decode code 162 = .ok (.iaload, 1) := by decide +kernel
theorem d_La_law_163 : decode code 163 = .ok (.invokevirtual 18, 3) := by decide +kernel
theorem d_La_law_166 : decode code 166 = .ok (.aload_n 2, 1) := by decide +kernel
theorem d_La_law_167 : decode code 167 = .ok (.aload_n 0, 1) := by decide +kernel
theorem d_La_law_168 : decode code 168 = .ok (.iload_n 3, 1) := by decide +kernel
theorem d_La_law_169 : decode code 169 = .ok (.iconst 1, 1) := by decide +kernel
theorem d_La_law_170 : decode code 170 = .ok (.iadd, 1) := by decide +kernel
theorem d_La_law_171 : decode code 171 = .ok (.iaload, 1) := by decide +kernel
theorem d_La_law_172 : decode code 172 = .ok (.invokevirtual 22, 3) := by decide +kernel
theorem d_La_law_175 : decode code 175 = .ok (.if_icmp .eq 301, 3) := by decide +kernel
theorem d_La_law_178 : decode code 178 = .ok (.iconst 0, 1) := by decide +kernel
theorem d_La_law_179 : decode code 179 = .ok (.ireturn, 1) := by decide +kernel
theorem d_La_law_180 : decode code 180 = .ok (.aload_n 1, 1) := by decide +kernel
theorem d_La_law_181 : decode code 181 = .ok (.invokevirtual 23, 3) := by decide +kernel
theorem d_La_law_184 : decode code 184 = .ok (.aload_n 2, 1) := by decide +kernel
theorem d_La_law_185 : decode code 185 = .ok (.invokevirtual 27, 3) := by decide +kernel
theorem d_La_law_188 : decode code 188 = .ok (.if_icmp .eq 288, 3) := by decide +kernel
theorem d_La_law_191 : decode code 191 = .ok (.iconst 0, 1) := by decide +kernel
theorem d_La_law_192 : decode code 192 = .ok (.ireturn, 1) := by decide +kernel
theorem d_La_law_193 : decode code 193 = .ok (.aload_n 1, 1) := by decide +kernel
theorem d_La_law_194 : decode code 194 = .ok (.aload_n 0, 1) := by decide +kernel
theorem d_La_law_195 : decode code 195 = .ok (.iload_n 3, 1) := by decide +kernel
theorem d_La_law_196 : decode code 196 = .ok (.iconst 1, 1) := by decide +kernel
theorem d_La_law_197 : decode code 197 = .ok (.iadd, 1) := by decide +kernel
theorem d_La_law_198 : decode code 198 = .ok (.iaload, 1) := by decide +kernel
theorem d_La_law_199 : decode code 199 = .ok (.aload_n 0, 1) := by decide +kernel
theorem d_La_law_200 : decode code 200 = .ok (.iload_n 3, 1) := by decide +kernel
theorem d_La_law_201 : decode code 201 = .ok (.iconst 2, 1) := by decide +kernel
theorem d_La_law_202 : decode code 202 = .ok (.iadd, 1) := by decide +kernel
theorem d_La_law_203 : decode code 203 = .ok (.iaload, 1) := by decide +kernel
theorem d_La_law_204 : decode code 204 = .ok (.invokevirtual 28, 3) := by decide +kernel
theorem d_La_law_207 : decode code 207 = .ok (.aload_n 2, 1) := by decide +kernel
theorem d_La_law_208 : decode code 208 = .ok (.aload_n 0, 1) := by decide +kernel
theorem d_La_law_209 : decode code 209 = .ok (.iload_n 3, 1) := by decide +kernel
theorem d_La_law_210 : decode code 210 = .ok (.iconst 1, 1) := by decide +kernel
theorem d_La_law_211 : decode code 211 = .ok (.iadd, 1) := by decide +kernel
theorem d_La_law_212 : decode code 212 = .ok (.iaload, 1) := by decide +kernel
theorem d_La_law_213 : decode code 213 = .ok (.aload_n 0, 1) := by decide +kernel
theorem d_La_law_214 : decode code 214 = .ok (.iload_n 3, 1) := by decide +kernel
theorem d_La_law_215 : decode code 215 = .ok (.iconst 2, 1) := by decide +kernel
theorem d_La_law_216 : decode code 216 = .ok (.iadd, 1) := by decide +kernel
theorem d_La_law_217 : decode code 217 = .ok (.iaload, 1) := by decide +kernel
theorem d_La_law_218 : decode code 218 = .ok (.invokevirtual 32, 3) := by decide +kernel
theorem d_La_law_221 : decode code 221 = .ok (.if_icmp .eq 255, 3) := by decide +kernel
theorem d_La_law_224 : decode code 224 = .ok (.iconst 0, 1) := by decide +kernel
theorem d_La_law_225 : decode code 225 = .ok (.ireturn, 1) := by decide +kernel
theorem d_La_law_226 : decode code 226 = .ok (.aload_n 1, 1) := by decide +kernel
theorem d_La_law_227 : decode code 227 = .ok (.aload_n 0, 1) := by decide +kernel
theorem d_La_law_228 : decode code 228 = .ok (.iload_n 3, 1) := by decide +kernel
theorem d_La_law_229 : decode code 229 = .ok (.iconst 1, 1) := by decide +kernel
theorem d_La_law_230 : decode code 230 = .ok (.iadd, 1) := by decide +kernel
theorem d_La_law_231 : decode code 231 = .ok (.iaload, 1) := by decide +kernel
theorem d_La_law_232 : decode code 232 = .ok (.aload_n 0, 1) := by decide +kernel
theorem d_La_law_233 : decode code 233 = .ok (.iload_n 3, 1) := by decide +kernel
theorem d_La_law_234 : decode code 234 = .ok (.iconst 2, 1) := by decide +kernel
theorem d_La_law_235 : decode code 235 = .ok (.iadd, 1) := by decide +kernel
theorem d_La_law_236 : decode code 236 = .ok (.iaload, 1) := by decide +kernel
theorem d_La_law_237 : decode code 237 = .ok (.invokevirtual 33, 3) := by decide +kernel
theorem d_La_law_240 : decode code 240 = .ok (.aload_n 2, 1) := by decide +kernel
theorem d_La_law_241 : decode code 241 = .ok (.aload_n 0, 1) := by decide +kernel
theorem d_La_law_242 : decode code 242 = .ok (.iload_n 3, 1) := by decide +kernel
theorem d_La_law_243 : decode code 243 = .ok (.iconst 1, 1) := by decide +kernel
theorem d_La_law_244 : decode code 244 = .ok (.iadd, 1) := by decide +kernel
theorem d_La_law_245 : decode code 245 = .ok (.iaload, 1) := by decide +kernel
theorem d_La_law_246 : decode code 246 = .ok (.aload_n 0, 1) := by decide +kernel
theorem d_La_law_247 : decode code 247 = .ok (.iload_n 3, 1) := by decide +kernel
theorem d_La_law_248 : decode code 248 = .ok (.iconst 2, 1) := by decide +kernel
theorem d_La_law_249 : decode code 249 = .ok (.iadd, 1) := by decide +kernel
theorem d_La_law_250 : decode code 250 = .ok (.iaload, 1) := by decide +kernel
theorem d_La_law_251 : decode code 251 = .ok (.invokevirtual 36, 3) := by decide +kernel
theorem d_La_law_254 : decode code 254 = .ok (.if_icmp .eq 222, 3) := by decide +kernel
theorem d_La_law_257 : decode code 257 = .ok (.iconst 0, 1) := by decide +kernel
theorem d_La_law_258 : decode code 258 = .ok (.ireturn, 1) := by decide +kernel
theorem d_La_law_259 : decode code 259 = .ok (.aload_n 1, 1) := by decide +kernel
theorem d_La_law_260 : decode code 260 = .ok (.aload_n 0, 1) := by decide +kernel
theorem d_La_law_261 : decode code 261 = .ok (.iload_n 3, 1) := by decide +kernel
theorem d_La_law_262 : decode code 262 = .ok (.iconst 1, 1) := by decide +kernel
theorem d_La_law_263 : decode code 263 = .ok (.iadd, 1) := by decide +kernel
theorem d_La_law_264 : decode code 264 = .ok (.iaload, 1) := by decide +kernel
theorem d_La_law_265 : decode code 265 = .ok (.aload_n 0, 1) := by decide +kernel
theorem d_La_law_266 : decode code 266 = .ok (.iload_n 3, 1) := by decide +kernel
theorem d_La_law_267 : decode code 267 = .ok (.iconst 2, 1) := by decide +kernel
theorem d_La_law_268 : decode code 268 = .ok (.iadd, 1) := by decide +kernel
theorem d_La_law_269 : decode code 269 = .ok (.iaload, 1) := by decide +kernel
theorem d_La_law_270 : decode code 270 = .ok (.aload_n 0, 1) := by decide +kernel
theorem d_La_law_271 : decode code 271 = .ok (.iload_n 3, 1) := by decide +kernel
theorem d_La_law_272 : decode code 272 = .ok (.iconst 3, 1) := by decide +kernel
theorem d_La_law_273 : decode code 273 = .ok (.iadd, 1) := by decide +kernel
theorem d_La_law_274 : decode code 274 = .ok (.iaload, 1) := by decide +kernel
theorem d_La_law_275 : decode code 275 = .ok (.invokevirtual 37, 3) := by decide +kernel
theorem d_La_law_278 : decode code 278 = .ok (.aload_n 2, 1) := by decide +kernel
theorem d_La_law_279 : decode code 279 = .ok (.aload_n 0, 1) := by decide +kernel
theorem d_La_law_280 : decode code 280 = .ok (.iload_n 3, 1) := by decide +kernel
theorem d_La_law_281 : decode code 281 = .ok (.iconst 1, 1) := by decide +kernel
theorem d_La_law_282 : decode code 282 = .ok (.iadd, 1) := by decide +kernel
theorem d_La_law_283 : decode code 283 = .ok (.iaload, 1) := by decide +kernel
theorem d_La_law_284 : decode code 284 = .ok (.aload_n 0, 1) := by decide +kernel
theorem d_La_law_285 : decode code 285 = .ok (.iload_n 3, 1) := by decide +kernel
theorem d_La_law_286 : decode code 286 = .ok (.iconst 2, 1) := by decide +kernel
theorem d_La_law_287 : decode code 287 = .ok (.iadd, 1) := by decide +kernel
theorem d_La_law_288 : decode code 288 = .ok (.iaload, 1) := by decide +kernel
theorem d_La_law_289 : decode code 289 = .ok (.aload_n 0, 1) := by decide +kernel
theorem d_La_law_290 : decode code 290 = .ok (.iload_n 3, 1) := by decide +kernel
theorem d_La_law_291 : decode code 291 = .ok (.iconst 3, 1) := by decide +kernel
theorem d_La_law_292 : decode code 292 = .ok (.iadd, 1) := by decide +kernel
theorem d_La_law_293 : decode code 293 = .ok (.iaload, 1) := by decide +kernel
theorem d_La_law_294 : decode code 294 = .ok (.invokevirtual 41, 3) := by decide +kernel
theorem d_La_law_297 : decode code 297 = .ok (.if_icmp .eq 179, 3) := by decide +kernel
theorem d_La_law_300 : decode code 300 = .ok (.iconst 0, 1) := by decide +kernel
theorem d_La_law_301 : decode code 301 = .ok (.ireturn, 1) := by decide +kernel
theorem d_La_law_302 : decode code 302 = .ok (.aload_n 1, 1) := by decide +kernel
theorem d_La_law_303 : decode code 303 = .ok (.aload_n 0, 1) := by decide +kernel
theorem d_La_law_304 : decode code 304 = .ok (.iload_n 3, 1) := by decide +kernel
theorem d_La_law_305 : decode code 305 = .ok (.iconst 1, 1) := by decide +kernel
theorem d_La_law_306 : decode code 306 = .ok (.iadd, 1) := by decide +kernel
theorem d_La_law_307 : decode code 307 = .ok (.iaload, 1) := by decide +kernel
theorem d_La_law_308 : decode code 308 = .ok (.invokevirtual 42, 3) := by decide +kernel
theorem d_La_law_311 : decode code 311 = .ok (.aload_n 2, 1) := by decide +kernel
theorem d_La_law_312 : decode code 312 = .ok (.aload_n 0, 1) := by decide +kernel
theorem d_La_law_313 : decode code 313 = .ok (.iload_n 3, 1) := by decide +kernel
theorem d_La_law_314 : decode code 314 = .ok (.iconst 1, 1) := by decide +kernel
theorem d_La_law_315 : decode code 315 = .ok (.iadd, 1) := by decide +kernel
theorem d_La_law_316 : decode code 316 = .ok (.iaload, 1) := by decide +kernel
theorem d_La_law_317 : decode code 317 = .ok (.invokevirtual 45, 3) := by decide +kernel
theorem d_La_law_320 : decode code 320 = .ok (.if_icmp .eq 156, 3) := by decide +kernel
theorem d_La_law_323 : decode code 323 = .ok (.iconst 0, 1) := by decide +kernel
theorem d_La_law_324 : decode code 324 = .ok (.ireturn, 1) := by decide +kernel
theorem d_La_law_325 : decode code 325 = .ok (.aload_n 1, 1) := by decide +kernel
theorem d_La_law_326 : decode code 326 = .ok (.aload_n 0, 1) := by decide +kernel
theorem d_La_law_327 : decode code 327 = .ok (.iload_n 3, 1) := by decide +kernel
theorem d_La_law_328 : decode code 328 = .ok (.iconst 1, 1) := by decide +kernel
theorem d_La_law_329 : decode code 329 = .ok (.iadd, 1) := by decide +kernel
theorem d_La_law_330 : decode code 330 = .ok (.iaload, 1) := by decide +kernel
theorem d_La_law_331 : decode code 331 = .ok (.invokevirtual 46, 3) := by decide +kernel
theorem d_La_law_334 : decode code 334 = .ok (.aload_n 2, 1) := by decide +kernel
theorem d_La_law_335 : decode code 335 = .ok (.aload_n 0, 1) := by decide +kernel
theorem d_La_law_336 : decode code 336 = .ok (.iload_n 3, 1) := by decide +kernel
theorem d_La_law_337 : decode code 337 = .ok (.iconst 1, 1) := by decide +kernel
theorem d_La_law_338 : decode code 338 = .ok (.iadd, 1) := by decide +kernel
theorem d_La_law_339 : decode code 339 = .ok (.iaload, 1) := by decide +kernel
theorem d_La_law_340 : decode code 340 = .ok (.invokevirtual 49, 3) := by decide +kernel
theorem d_La_law_343 : decode code 343 = .ok (.if_icmp .eq 133, 3) := by decide +kernel
theorem d_La_law_346 : decode code 346 = .ok (.iconst 0, 1) := by decide +kernel
theorem d_La_law_347 : decode code 347 = .ok (.ireturn, 1) := by decide +kernel
theorem d_La_law_348 : decode code 348 = .ok (.aload_n 1, 1) := by decide +kernel
theorem d_La_law_349 : decode code 349 = .ok (.aload_n 0, 1) := by decide +kernel
theorem d_La_law_350 : decode code 350 = .ok (.iload_n 3, 1) := by decide +kernel
theorem d_La_law_351 : decode code 351 = .ok (.iconst 1, 1) := by decide +kernel
end
section
theorem d_La_law_352 : decode code 352 = .ok (.iadd, 1) := by decide +kernel
theorem d_La_law_353 : decode code 353 = .ok (.iaload, 1) := by decide +kernel
theorem d_La_law_354 : decode code 354 = .ok (.invokevirtual 50, 3) := by decide +kernel
theorem d_La_law_357 : decode code 357 = .ok (.aload_n 2, 1) := by decide +kernel
theorem d_La_law_358 : decode code 358 = .ok (.aload_n 0, 1) := by decide +kernel
theorem d_La_law_359 : decode code 359 = .ok (.iload_n 3, 1) := by decide +kernel
theorem d_La_law_360 : decode code 360 = .ok (.iconst 1, 1) := by decide +kernel
theorem d_La_law_361 : decode code 361 = .ok (.iadd, 1) := by decide +kernel
theorem d_La_law_362 : decode code 362 = .ok (.iaload, 1) := by decide +kernel
theorem d_La_law_363 : decode code 363 = .ok (.invokevirtual 53, 3) := by decide +kernel
theorem d_La_law_366 : decode code 366 = .ok (.if_icmp .eq 110, 3) := by decide +kernel
theorem d_La_law_369 : decode code 369 = .ok (.iconst 0, 1) := by decide +kernel
theorem d_La_law_370 : decode code 370 = .ok (.ireturn, 1) := by decide +kernel
theorem d_La_law_371 : decode code 371 = .ok (.aload_n 1, 1) := by decide +kernel
theorem d_La_law_372 : decode code 372 = .ok (.aload_n 0, 1) := by decide +kernel
theorem d_La_law_373 : decode code 373 = .ok (.iload_n 3, 1) := by decide +kernel
theorem d_La_law_374 : decode code 374 = .ok (.iconst 1, 1) := by decide +kernel
theorem d_La_law_375 : decode code 375 = .ok (.iadd, 1) := by decide +kernel
theorem d_La_law_376 : decode code 376 = .ok (.iaload, 1) := by decide +kernel
theorem d_La_law_377 : decode code 377 = .ok (.ifCond .eq 7, 3) := by decide +kernel
theorem d_La_law_380 : decode code 380 = .ok (.iconst 1, 1) := by decide +kernel
theorem d_La_law_381 : decode code 381 = .ok (.goto 4, 3) := by decide +kernel
theorem d_La_law_384 : decode code 384 = .ok (.iconst 0, 1) := by decide +kernel
theorem d_La_law_385 : decode code 385 = .ok (.aload_n 0, 1) := by decide +kernel
theorem d_La_law_386 : decode code 386 = .ok (.iload_n 3, 1) := by decide +kernel
theorem d_La_law_387 : decode code 387 = .ok (.iconst 2, 1) := by decide +kernel
theorem d_La_law_388 : decode code 388 = .ok (.iadd, 1) := by decide +kernel
theorem d_La_law_389 : decode code 389 = .ok (.iaload, 1) := by decide +kernel
theorem d_La_law_390 : decode code 390 = .ok (.invokevirtual 54, 3) := by decide +kernel
theorem d_La_law_393 : decode code 393 = .ok (.aload_n 2, 1) := by decide +kernel
theorem d_La_law_394 : decode code 394 = .ok (.aload_n 0, 1) := by decide +kernel
theorem d_La_law_395 : decode code 395 = .ok (.iload_n 3, 1) := by decide +kernel
theorem d_La_law_396 : decode code 396 = .ok (.iconst 1, 1) := by decide +kernel
theorem d_La_law_397 : decode code 397 = .ok (.iadd, 1) := by decide +kernel
theorem d_La_law_398 : decode code 398 = .ok (.iaload, 1) := by decide +kernel
theorem d_La_law_399 : decode code 399 = .ok (.ifCond .eq 7, 3) := by decide +kernel
theorem d_La_law_402 : decode code 402 = .ok (.iconst 1, 1) := by decide +kernel
theorem d_La_law_403 : decode code 403 = .ok (.goto 4, 3) := by decide +kernel
theorem d_La_law_406 : decode code 406 = .ok (.iconst 0, 1) := by decide +kernel
theorem d_La_law_407 : decode code 407 = .ok (.aload_n 0, 1) := by decide +kernel
theorem d_La_law_408 : decode code 408 = .ok (.iload_n 3, 1) := by decide +kernel
theorem d_La_law_409 : decode code 409 = .ok (.iconst 2, 1) := by decide +kernel
theorem d_La_law_410 : decode code 410 = .ok (.iadd, 1) := by decide +kernel
theorem d_La_law_411 : decode code 411 = .ok (.iaload, 1) := by decide +kernel
theorem d_La_law_412 : decode code 412 = .ok (.invokevirtual 58, 3) := by decide +kernel
theorem d_La_law_415 : decode code 415 = .ok (.if_icmp .eq 61, 3) := by decide +kernel
theorem d_La_law_418 : decode code 418 = .ok (.iconst 0, 1) := by decide +kernel
theorem d_La_law_419 : decode code 419 = .ok (.ireturn, 1) := by decide +kernel
theorem d_La_law_420 : decode code 420 = .ok (.aload_n 1, 1) := by decide +kernel
theorem d_La_law_421 : decode code 421 = .ok (.aload_n 0, 1) := by decide +kernel
theorem d_La_law_422 : decode code 422 = .ok (.iload_n 3, 1) := by decide +kernel
theorem d_La_law_423 : decode code 423 = .ok (.iconst 1, 1) := by decide +kernel
theorem d_La_law_424 : decode code 424 = .ok (.iadd, 1) := by decide +kernel
theorem d_La_law_425 : decode code 425 = .ok (.iaload, 1) := by decide +kernel
theorem d_La_law_426 : decode code 426 = .ok (.aload_n 0, 1) := by decide +kernel
theorem d_La_law_427 : decode code 427 = .ok (.iload_n 3, 1) := by decide +kernel
theorem d_La_law_428 : decode code 428 = .ok (.iconst 2, 1) := by decide +kernel
theorem d_La_law_429 : decode code 429 = .ok (.iadd, 1) := by decide +kernel
theorem d_La_law_430 : decode code 430 = .ok (.iaload, 1) := by decide +kernel
theorem d_La_law_431 : decode code 431 = .ok (.invokevirtual 59, 3) := by decide +kernel
theorem d_La_law_434 : decode code 434 = .ok (.aload_n 2, 1) := by decide +kernel
theorem d_La_law_435 : decode code 435 = .ok (.aload_n 0, 1) := by decide +kernel
theorem d_La_law_436 : decode code 436 = .ok (.iload_n 3, 1) := by decide +kernel
theorem d_La_law_437 : decode code 437 = .ok (.iconst 1, 1) := by decide +kernel
theorem d_La_law_438 : decode code 438 = .ok (.iadd, 1) := by decide +kernel
theorem d_La_law_439 : decode code 439 = .ok (.iaload, 1) := by decide +kernel
theorem d_La_law_440 : decode code 440 = .ok (.aload_n 0, 1) := by decide +kernel
theorem d_La_law_441 : decode code 441 = .ok (.iload_n 3, 1) := by decide +kernel
theorem d_La_law_442 : decode code 442 = .ok (.iconst 2, 1) := by decide +kernel
theorem d_La_law_443 : decode code 443 = .ok (.iadd, 1) := by decide +kernel
theorem d_La_law_444 : decode code 444 = .ok (.iaload, 1) := by decide +kernel
theorem d_La_law_445 : decode code 445 = .ok (.invokevirtual 62, 3) := by decide +kernel
theorem d_La_law_448 : decode code 448 = .ok (.if_icmp .eq 28, 3) := by decide +kernel
theorem d_La_law_451 : decode code 451 = .ok (.iconst 0, 1) := by decide +kernel
theorem d_La_law_452 : decode code 452 = .ok (.ireturn, 1) := by decide +kernel
theorem d_La_law_453 : decode code 453 = .ok (.aload_n 1, 1) := by decide +kernel
theorem d_La_law_454 : decode code 454 = .ok (.aload_n 0, 1) := by decide +kernel
theorem d_La_law_455 : decode code 455 = .ok (.iload_n 3, 1) := by decide +kernel
theorem d_La_law_456 : decode code 456 = .ok (.iconst 1, 1) := by decide +kernel
theorem d_La_law_457 : decode code 457 = .ok (.iadd, 1) := by decide +kernel
theorem d_La_law_458 : decode code 458 = .ok (.iaload, 1) := by decide +kernel
theorem d_La_law_459 : decode code 459 = .ok (.invokevirtual 63, 3) := by decide +kernel
theorem d_La_law_462 : decode code 462 = .ok (.aload_n 2, 1) := by decide +kernel
theorem d_La_law_463 : decode code 463 = .ok (.aload_n 0, 1) := by decide +kernel
theorem d_La_law_464 : decode code 464 = .ok (.iload_n 3, 1) := by decide +kernel
theorem d_La_law_465 : decode code 465 = .ok (.iconst 1, 1) := by decide +kernel
theorem d_La_law_466 : decode code 466 = .ok (.iadd, 1) := by decide +kernel
theorem d_La_law_467 : decode code 467 = .ok (.iaload, 1) := by decide +kernel
theorem d_La_law_468 : decode code 468 = .ok (.invokevirtual 66, 3) := by decide +kernel
theorem d_La_law_471 : decode code 471 = .ok (.if_icmp .eq 5, 3) := by decide +kernel
theorem d_La_law_474 : decode code 474 = .ok (.iconst 0, 1) := by decide +kernel
theorem d_La_law_475 : decode code 475 = .ok (.ireturn, 1) := by decide +kernel
theorem d_La_law_476 : decode code 476 = .ok (.iinc 3 6, 3) := by decide +kernel
theorem d_La_law_479 : decode code 479 = .ok (.goto (-461), 3) := by decide +kernel
theorem d_La_law_482 : decode code 482 = .ok (.iconst 1, 1) := by decide +kernel
theorem d_La_law_483 : decode code 483 = .ok (.ireturn, 1) := by decide +kernel
end
section
theorem d_Mp_openParts_0 : decode b_Mp_openParts 0 = .ok (.iload_n 3, 1) := by decide +kernel
theorem d_Mp_openParts_1 : decode b_Mp_openParts 1 = .ok (.ifCond .lt 12, 3) := by decide +kernel
theorem d_Mp_openParts_4 : decode b_Mp_openParts 4 = .ok (.iload_n 3, 1) := by decide +kernel
theorem d_Mp_openParts_5 : decode b_Mp_openParts 5 = .ok (.aload_n 0, 1) := by decide +kernel
theorem d_Mp_openParts_6 : decode b_Mp_openParts 6 = .ok (.getfield 76, 3) := by decide +kernel
theorem d_Mp_openParts_9 : decode b_Mp_openParts 9 = .ok (.arraylength, 1) := by decide +kernel
theorem d_Mp_openParts_10 : decode b_Mp_openParts 10 = .ok (.if_icmp .lt 4, 3) := by decide +kernel
theorem d_Mp_openParts_13 : decode b_Mp_openParts 13 = .ok (.return_, 1) := by decide +kernel
theorem d_Mp_openParts_14 : decode b_Mp_openParts 14 = .ok (.aload_n 0, 1) := by decide +kernel
theorem d_Mp_openParts_15 : decode b_Mp_openParts 15 = .ok (.getfield 76, 3) := by decide +kernel
theorem d_Mp_openParts_18 : decode b_Mp_openParts 18 = .ok (.iload_n 3, 1) := by decide +kernel
theorem d_Mp_openParts_19 : decode b_Mp_openParts 19 = .ok (.aaload, 1) := by decide +kernel
theorem d_Mp_openParts_20 : decode b_Mp_openParts 20 = .ok (.astore 4, 2) := by decide +kernel
theorem d_Mp_openParts_22 : decode b_Mp_openParts 22 = .ok (.iconst (-1), 1) := by decide +kernel
theorem d_Mp_openParts_23 : decode b_Mp_openParts 23 = .ok (.istore 5, 2) := by decide +kernel
theorem d_Mp_openParts_25 : decode b_Mp_openParts 25 = .ok (.aload_n 1, 1) := by decide +kernel
theorem d_Mp_openParts_26 : decode b_Mp_openParts 26 = .ok (.getfield 155, 3) := by decide +kernel
theorem d_Mp_openParts_29 : decode b_Mp_openParts 29 = .ok (.istore 6, 2) := by decide +kernel
theorem d_Mp_openParts_31 : decode b_Mp_openParts 31 = .ok (.iload 6, 2) := by decide +kernel
theorem d_Mp_openParts_33 : decode b_Mp_openParts 33 = .ok (.aload_n 1, 1) := by decide +kernel
theorem d_Mp_openParts_34 : decode b_Mp_openParts 34 = .ok (.getfield 158, 3) := by decide +kernel
theorem d_Mp_openParts_37 : decode b_Mp_openParts 37 = .ok (.if_icmp .ge 58, 3) := by decide +kernel
theorem d_Mp_openParts_40 : decode b_Mp_openParts 40 = .ok (.aload_n 0, 1) := by decide +kernel
theorem d_Mp_openParts_41 : decode b_Mp_openParts 41 = .ok (.getfield 24, 3) := by decide +kernel
theorem d_Mp_openParts_44 : decode b_Mp_openParts 44 = .ok (.iload 6, 2) := by decide +kernel
theorem d_Mp_openParts_46 : decode b_Mp_openParts 46 = .ok (.aload 4, 2) := by decide +kernel
theorem d_Mp_openParts_48 : decode b_Mp_openParts 48 = .ok (.invokevirtual 224, 3) := by decide +kernel
theorem d_Mp_openParts_51 : decode b_Mp_openParts 51 = .ok (.istore 7, 2) := by decide +kernel
theorem d_Mp_openParts_53 : decode b_Mp_openParts 53 = .ok (.iload 7, 2) := by decide +kernel
theorem d_Mp_openParts_55 : decode b_Mp_openParts 55 = .ok (.ifCond .eq 34, 3) := by decide +kernel
theorem d_Mp_openParts_58 : decode b_Mp_openParts 58 = .ok (.iload 5, 2) := by decide +kernel
theorem d_Mp_openParts_60 : decode b_Mp_openParts 60 = .ok (.iconst (-1), 1) := by decide +kernel
theorem d_Mp_openParts_61 : decode b_Mp_openParts 61 = .ok (.if_icmp .eq 15, 3) := by decide +kernel
theorem d_Mp_openParts_64 : decode b_Mp_openParts 64 = .ok (.aload_n 0, 1) := by decide +kernel
theorem d_Mp_openParts_65 : decode b_Mp_openParts 65 = .ok (.iload 5, 2) := by decide +kernel
theorem d_Mp_openParts_67 : decode b_Mp_openParts 67 = .ok (.iload 6, 2) := by decide +kernel
theorem d_Mp_openParts_69 : decode b_Mp_openParts 69 = .ok (.iload_n 2, 1) := by decide +kernel
theorem d_Mp_openParts_70 : decode b_Mp_openParts 70 = .ok (.iload_n 3, 1) := by decide +kernel
theorem d_Mp_openParts_71 : decode b_Mp_openParts 71 = .ok (.iconst 1, 1) := by decide +kernel
theorem d_Mp_openParts_72 : decode b_Mp_openParts 72 = .ok (.iadd, 1) := by decide +kernel
theorem d_Mp_openParts_73 : decode b_Mp_openParts 73 = .ok (.invokevirtual 122, 3) := by decide +kernel
theorem d_Mp_openParts_76 : decode b_Mp_openParts 76 = .ok (.iload 7, 2) := by decide +kernel
theorem d_Mp_openParts_78 : decode b_Mp_openParts 78 = .ok (.iconst 2, 1) := by decide +kernel
theorem d_Mp_openParts_79 : decode b_Mp_openParts 79 = .ok (.if_icmp .ne 4, 3) := by decide +kernel
theorem d_Mp_openParts_82 : decode b_Mp_openParts 82 = .ok (.return_, 1) := by decide +kernel
theorem d_Mp_openParts_83 : decode b_Mp_openParts 83 = .ok (.iload 6, 2) := by decide +kernel
theorem d_Mp_openParts_85 : decode b_Mp_openParts 85 = .ok (.iconst 1, 1) := by decide +kernel
theorem d_Mp_openParts_86 : decode b_Mp_openParts 86 = .ok (.iadd, 1) := by decide +kernel
theorem d_Mp_openParts_87 : decode b_Mp_openParts 87 = .ok (.istore 5, 2) := by decide +kernel
theorem d_Mp_openParts_89 : decode b_Mp_openParts 89 = .ok (.iinc 6 1, 3) := by decide +kernel
theorem d_Mp_openParts_92 : decode b_Mp_openParts 92 = .ok (.goto (-61), 3) := by decide +kernel
theorem d_Mp_openParts_95 : decode b_Mp_openParts 95 = .ok (.iload 5, 2) := by decide +kernel
theorem d_Mp_openParts_97 : decode b_Mp_openParts 97 = .ok (.iconst (-1), 1) := by decide +kernel
theorem d_Mp_openParts_98 : decode b_Mp_openParts 98 = .ok (.if_icmp .eq 17, 3) := by decide +kernel
theorem d_Mp_openParts_101 : decode b_Mp_openParts 101 = .ok (.aload_n 0, 1) := by decide +kernel
theorem d_Mp_openParts_102 : decode b_Mp_openParts 102 = .ok (.iload 5, 2) := by decide +kernel
theorem d_Mp_openParts_104 : decode b_Mp_openParts 104 = .ok (.aload_n 1, 1) := by decide +kernel
theorem d_Mp_openParts_105 : decode b_Mp_openParts 105 = .ok (.getfield 158, 3) := by decide +kernel
theorem d_Mp_openParts_108 : decode b_Mp_openParts 108 = .ok (.iload_n 2, 1) := by decide +kernel
theorem d_Mp_openParts_109 : decode b_Mp_openParts 109 = .ok (.iload_n 3, 1) := by decide +kernel
theorem d_Mp_openParts_110 : decode b_Mp_openParts 110 = .ok (.iconst 1, 1) := by decide +kernel
theorem d_Mp_openParts_111 : decode b_Mp_openParts 111 = .ok (.iadd, 1) := by decide +kernel
theorem d_Mp_openParts_112 : decode b_Mp_openParts 112 = .ok (.invokevirtual 122, 3) := by decide +kernel
theorem d_Mp_openParts_115 : decode b_Mp_openParts 115 = .ok (.return_, 1) := by decide +kernel
theorem d_Mp_describe_0 : decode b_Mp_describe 0 = .ok (.aload_n 0, 1) := by decide +kernel
theorem d_Mp_describe_1 : decode b_Mp_describe 1 = .ok (.aload_n 1, 1) := by decide +kernel
theorem d_Mp_describe_2 : decode b_Mp_describe 2 = .ok (.invokevirtual 228, 3) := by decide +kernel
theorem d_Mp_describe_5 : decode b_Mp_describe 5 = .ok (.aload_n 0, 1) := by decide +kernel
theorem d_Mp_describe_6 : decode b_Mp_describe 6 = .ok (.getfield 31, 3) := by decide +kernel
theorem d_Mp_describe_9 : decode b_Mp_describe 9 = .ok (.getfield 178, 3) := by decide +kernel
theorem d_Mp_describe_12 : decode b_Mp_describe 12 = .ok (.ldc 231, 2) := by decide +kernel
theorem d_Mp_describe_14 : decode b_Mp_describe 14 = .ok (.invokevirtual 233, 3) := by decide +kernel
theorem d_Mp_describe_17 : decode b_Mp_describe 17 = .ok (.istore_n 2, 1) := by decide +kernel
theorem d_Mp_describe_18 : decode b_Mp_describe 18 = .ok (.aload_n 0, 1) := by decide +kernel
theorem d_Mp_describe_19 : decode b_Mp_describe 19 = .ok (.getfield 31, 3) := by decide +kernel
theorem d_Mp_describe_22 : decode b_Mp_describe 22 = .ok (.getfield 178, 3) := by decide +kernel
theorem d_Mp_describe_25 : decode b_Mp_describe 25 = .ok (.ldc 237, 2) := by decide +kernel
theorem d_Mp_describe_27 : decode b_Mp_describe 27 = .ok (.invokevirtual 239, 3) := by decide +kernel
theorem d_Mp_describe_30 : decode b_Mp_describe 30 = .ok (.istore_n 3, 1) := by decide +kernel
theorem d_Mp_describe_31 : decode b_Mp_describe 31 = .ok (.aload_n 0, 1) := by decide +kernel
theorem d_Mp_describe_32 : decode b_Mp_describe 32 = .ok (.getfield 31, 3) := by decide +kernel
theorem d_Mp_describe_35 : decode b_Mp_describe 35 = .ok (.getfield 178, 3) := by decide +kernel
theorem d_Mp_describe_38 : decode b_Mp_describe 38 = .ok (.ldc 242, 2) := by decide +kernel
theorem d_Mp_describe_40 : decode b_Mp_describe 40 = .ok (.invokevirtual 233, 3) := by decide +kernel
theorem d_Mp_describe_43 : decode b_Mp_describe 43 = .ok (.istore 4, 2) := by decide +kernel
theorem d_Mp_describe_45 : decode b_Mp_describe 45 = .ok (.aload_n 0, 1) := by decide +kernel
theorem d_Mp_describe_46 : decode b_Mp_describe 46 = .ok (.getfield 31, 3) := by decide +kernel
theorem d_Mp_describe_49 : decode b_Mp_describe 49 = .ok (.getfield 178, 3) := by decide +kernel
theorem d_Mp_describe_52 : decode b_Mp_describe 52 = .ok (.ldc 244, 2) := by decide +kernel
theorem d_Mp_describe_54 : decode b_Mp_describe 54 = .ok (.invokevirtual 239, 3) := by decide +kernel
theorem d_Mp_describe_57 : decode b_Mp_describe 57 = .ok (.istore 5, 2) := by decide +kernel
theorem d_Mp_describe_59 : decode b_Mp_describe 59 = .ok (.aload_n 1, 1) := by decide +kernel
theorem d_Mp_describe_60 : decode b_Mp_describe 60 = .ok (.aload_n 0, 1) := by decide +kernel
theorem d_Mp_describe_61 : decode b_Mp_describe 61 = .ok (.getfield 31, 3) := by decide +kernel
theorem d_Mp_describe_64 : decode b_Mp_describe 64 = .ok (.getfield 178, 3) := by decide +kernel
theorem d_Mp_describe_67 : decode b_Mp_describe 67 = .ok (.ldc 246, 2) := by decide +kernel
theorem d_Mp_describe_69 : decode b_Mp_describe 69 = .ok (.invokevirtual 239, 3) := by decide +kernel
theorem d_Mp_describe_72 : decode b_Mp_describe 72 = .ok (.putfield 248, 3) := by decide +kernel
theorem d_Mp_describe_75 : decode b_Mp_describe 75 = .ok (.aload_n 1, 1) := by decide +kernel
theorem d_Mp_describe_76 : decode b_Mp_describe 76 = .ok (.aload_n 0, 1) := by decide +kernel
theorem d_Mp_describe_77 : decode b_Mp_describe 77 = .ok (.getfield 31, 3) := by decide +kernel
theorem d_Mp_describe_80 : decode b_Mp_describe 80 = .ok (.getfield 178, 3) := by decide +kernel
theorem d_Mp_describe_83 : decode b_Mp_describe 83 = .ok (.ldc 251, 2) := by decide +kernel
theorem d_Mp_describe_85 : decode b_Mp_describe 85 = .ok (.invokevirtual 239, 3) := by decide +kernel
theorem d_Mp_describe_88 : decode b_Mp_describe 88 = .ok (.putfield 253, 3) := by decide +kernel
theorem d_Mp_describe_91 : decode b_Mp_describe 91 = .ok (.aload_n 0, 1) := by decide +kernel
theorem d_Mp_describe_92 : decode b_Mp_describe 92 = .ok (.aload_n 1, 1) := by decide +kernel
theorem d_Mp_describe_93 : decode b_Mp_describe 93 = .ok (.aload_n 0, 1) := by decide +kernel
theorem d_Mp_describe_94 : decode b_Mp_describe 94 = .ok (.getfield 51, 3) := by decide +kernel
theorem d_Mp_describe_97 : decode b_Mp_describe 97 = .ok (.invokevirtual 179, 3) := by decide +kernel
theorem d_Mp_describe_100 : decode b_Mp_describe 100 = .ok (.pop, 1) := by decide +kernel
theorem d_Mp_describe_101 : decode b_Mp_describe 101 = .ok (.aload_n 0, 1) := by decide +kernel
theorem d_Mp_describe_102 : decode b_Mp_describe 102 = .ok (.getfield 31, 3) := by decide +kernel
theorem d_Mp_describe_105 : decode b_Mp_describe 105 = .ok (.invokevirtual 256, 3) := by decide +kernel
theorem d_Mp_describe_108 : decode b_Mp_describe 108 = .ok (.aload_n 1, 1) := by decide +kernel
theorem d_Mp_describe_109 : decode b_Mp_describe 109 = .ok (.aload_n 0, 1) := by decide +kernel
theorem d_Mp_describe_110 : decode b_Mp_describe 110 = .ok (.getfield 31, 3) := by decide +kernel
theorem d_Mp_describe_113 : decode b_Mp_describe 113 = .ok (.getfield 178, 3) := by decide +kernel
theorem d_Mp_describe_116 : decode b_Mp_describe 116 = .ok (.ldc_w 259, 3) := by decide +kernel
theorem d_Mp_describe_119 : decode b_Mp_describe 119 = .ok (.invokevirtual 239, 3) := by decide +kernel
theorem d_Mp_describe_122 : decode b_Mp_describe 122 = .ok (.putfield 145, 3) := by decide +kernel
theorem d_Mp_describe_125 : decode b_Mp_describe 125 = .ok (.aload_n 1, 1) := by decide +kernel
theorem d_Mp_describe_126 : decode b_Mp_describe 126 = .ok (.iconst 0, 1) := by decide +kernel
theorem d_Mp_describe_127 : decode b_Mp_describe 127 = .ok (.putfield 136, 3) := by decide +kernel
theorem d_Mp_describe_130 : decode b_Mp_describe 130 = .ok (.aload_n 1, 1) := by decide +kernel
theorem d_Mp_describe_131 : decode b_Mp_describe 131 = .ok (.getfield 142, 3) := by decide +kernel
theorem d_Mp_describe_134 : decode b_Mp_describe 134 = .ok (.bipush 8, 2) := by decide +kernel
theorem d_Mp_describe_136 : decode b_Mp_describe 136 = .ok (.if_icmp .ge 42, 3) := by decide +kernel
theorem d_Mp_describe_139 : decode b_Mp_describe 139 = .ok (.iload 4, 2) := by decide +kernel
theorem d_Mp_describe_141 : decode b_Mp_describe 141 = .ok (.ifCond .eq 19, 3) := by decide +kernel
theorem d_Mp_describe_144 : decode b_Mp_describe 144 = .ok (.aload_n 0, 1) := by decide +kernel
theorem d_Mp_describe_145 : decode b_Mp_describe 145 = .ok (.aload_n 1, 1) := by decide +kernel
theorem d_Mp_describe_146 : decode b_Mp_describe 146 = .ok (.invokevirtual 261, 3) := by decide +kernel
theorem d_Mp_describe_149 : decode b_Mp_describe 149 = .ok (.ifCond .eq 11, 3) := by decide +kernel
theorem d_Mp_describe_152 : decode b_Mp_describe 152 = .ok (.aload_n 1, 1) := by decide +kernel
theorem d_Mp_describe_153 : decode b_Mp_describe 153 = .ok (.iconst 1, 1) := by decide +kernel
theorem d_Mp_describe_154 : decode b_Mp_describe 154 = .ok (.putfield 136, 3) := by decide +kernel
theorem d_Mp_describe_157 : decode b_Mp_describe 157 = .ok (.goto 21, 3) := by decide +kernel
theorem d_Mp_describe_160 : decode b_Mp_describe 160 = .ok (.iload 5, 2) := by decide +kernel
theorem d_Mp_describe_162 : decode b_Mp_describe 162 = .ok (.ifCond .eq 16, 3) := by decide +kernel
theorem d_Mp_describe_165 : decode b_Mp_describe 165 = .ok (.aload_n 0, 1) := by decide +kernel
theorem d_Mp_describe_166 : decode b_Mp_describe 166 = .ok (.aload_n 1, 1) := by decide +kernel
theorem d_Mp_describe_167 : decode b_Mp_describe 167 = .ok (.invokevirtual 265, 3) := by decide +kernel
theorem d_Mp_describe_170 : decode b_Mp_describe 170 = .ok (.ifCond .eq 8, 3) := by decide +kernel
theorem d_Mp_describe_173 : decode b_Mp_describe 173 = .ok (.aload_n 1, 1) := by decide +kernel
theorem d_Mp_describe_174 : decode b_Mp_describe 174 = .ok (.iconst 2, 1) := by decide +kernel
theorem d_Mp_describe_175 : decode b_Mp_describe 175 = .ok (.putfield 136, 3) := by decide +kernel
theorem d_Mp_describe_178 : decode b_Mp_describe 178 = .ok (.aload_n 1, 1) := by decide +kernel
theorem d_Mp_describe_179 : decode b_Mp_describe 179 = .ok (.aload_n 1, 1) := by decide +kernel
theorem d_Mp_describe_180 : decode b_Mp_describe 180 = .ok (.getfield 136, 3) := by decide +kernel
theorem d_Mp_describe_183 : decode b_Mp_describe 183 = .ok (.ifCond .ne 18, 3) := by decide +kernel
theorem d_Mp_describe_186 : decode b_Mp_describe 186 = .ok (.iload_n 2, 1) := by decide +kernel
theorem d_Mp_describe_187 : decode b_Mp_describe 187 = .ok (.ifCond .eq 14, 3) := by decide +kernel
theorem d_Mp_describe_190 : decode b_Mp_describe 190 = .ok (.aload_n 1, 1) := by decide +kernel
theorem d_Mp_describe_191 : decode b_Mp_describe 191 = .ok (.getfield 145, 3) := by decide +kernel
theorem d_Mp_describe_194 : decode b_Mp_describe 194 = .ok (.ifCond .ne 7, 3) := by decide +kernel
theorem d_Mp_describe_197 : decode b_Mp_describe 197 = .ok (.iconst 1, 1) := by decide +kernel
theorem d_Mp_describe_198 : decode b_Mp_describe 198 = .ok (.goto 4, 3) := by decide +kernel
theorem d_Mp_describe_201 : decode b_Mp_describe 201 = .ok (.iconst 0, 1) := by decide +kernel
theorem d_Mp_describe_202 : decode b_Mp_describe 202 = .ok (.putfield 268, 3) := by decide +kernel
theorem d_Mp_describe_205 : decode b_Mp_describe 205 = .ok (.aload_n 1, 1) := by decide +kernel
theorem d_Mp_describe_206 : decode b_Mp_describe 206 = .ok (.aload_n 1, 1) := by decide +kernel
theorem d_Mp_describe_207 : decode b_Mp_describe 207 = .ok (.getfield 268, 3) := by decide +kernel
theorem d_Mp_describe_210 : decode b_Mp_describe 210 = .ok (.ifCond .eq 11, 3) := by decide +kernel
theorem d_Mp_describe_213 : decode b_Mp_describe 213 = .ok (.iload_n 3, 1) := by decide +kernel
theorem d_Mp_describe_214 : decode b_Mp_describe 214 = .ok (.ifCond .eq 7, 3) := by decide +kernel
theorem d_Mp_describe_217 : decode b_Mp_describe 217 = .ok (.iconst 1, 1) := by decide +kernel
theorem d_Mp_describe_218 : decode b_Mp_describe 218 = .ok (.goto 4, 3) := by decide +kernel
theorem d_Mp_describe_221 : decode b_Mp_describe 221 = .ok (.iconst 0, 1) := by decide +kernel
theorem d_Mp_describe_222 : decode b_Mp_describe 222 = .ok (.putfield 271, 3) := by decide +kernel
theorem d_Mp_describe_225 : decode b_Mp_describe 225 = .ok (.aload_n 1, 1) := by decide +kernel
theorem d_Mp_describe_226 : decode b_Mp_describe 226 = .ok (.aload_n 1, 1) := by decide +kernel
theorem d_Mp_describe_227 : decode b_Mp_describe 227 = .ok (.getfield 136, 3) := by decide +kernel
theorem d_Mp_describe_230 : decode b_Mp_describe 230 = .ok (.ifCond .ne 18, 3) := by decide +kernel
theorem d_Mp_describe_233 : decode b_Mp_describe 233 = .ok (.aload_n 1, 1) := by decide +kernel
theorem d_Mp_describe_234 : decode b_Mp_describe 234 = .ok (.getfield 145, 3) := by decide +kernel
theorem d_Mp_describe_237 : decode b_Mp_describe 237 = .ok (.ifCond .ne 7, 3) := by decide +kernel
theorem d_Mp_describe_240 : decode b_Mp_describe 240 = .ok (.iload_n 2, 1) := by decide +kernel
theorem d_Mp_describe_241 : decode b_Mp_describe 241 = .ok (.ifCond .ne 7, 3) := by decide +kernel
theorem d_Mp_describe_244 : decode b_Mp_describe 244 = .ok (.iconst 1, 1) := by decide +kernel
theorem d_Mp_describe_245 : decode b_Mp_describe 245 = .ok (.goto 4, 3) := by decide +kernel
theorem d_Mp_describe_248 : decode b_Mp_describe 248 = .ok (.iconst 0, 1) := by decide +kernel
theorem d_Mp_describe_249 : decode b_Mp_describe 249 = .ok (.putfield 274, 3) := by decide +kernel
theorem d_Mp_describe_252 : decode b_Mp_describe 252 = .ok (.aload_n 1, 1) := by decide +kernel
theorem d_Mp_describe_253 : decode b_Mp_describe 253 = .ok (.iconst (-1), 1) := by decide +kernel
theorem d_Mp_describe_254 : decode b_Mp_describe 254 = .ok (.putfield 277, 3) := by decide +kernel
theorem d_Mp_describe_257 : decode b_Mp_describe 257 = .ok (.return_, 1) := by decide +kernel
theorem d_Mp_hasBoundary_0 : decode b_Mp_hasBoundary 0 = .ok (.aload_n 0, 1) := by decide +kernel
theorem d_Mp_hasBoundary_1 : decode b_Mp_hasBoundary 1 = .ok (.aload_n 1, 1) := by decide +kernel
theorem d_Mp_hasBoundary_2 : decode b_Mp_hasBoundary 2 = .ok (.aload_n 0, 1) := by decide +kernel
theorem d_Mp_hasBoundary_3 : decode b_Mp_hasBoundary 3 = .ok (.getfield 41, 3) := by decide +kernel
theorem d_Mp_hasBoundary_6 : decode b_Mp_hasBoundary 6 = .ok (.invokevirtual 179, 3) := by decide +kernel
theorem d_Mp_hasBoundary_9 : decode b_Mp_hasBoundary 9 = .ok (.pop, 1) := by decide +kernel
theorem d_Mp_hasBoundary_10 : decode b_Mp_hasBoundary 10 = .ok (.aload_n 0, 1) := by decide +kernel
theorem d_Mp_hasBoundary_11 : decode b_Mp_hasBoundary 11 = .ok (.getfield 31, 3) := by decide +kernel
theorem d_Mp_hasBoundary_14 : decode b_Mp_hasBoundary 14 = .ok (.aload_n 0, 1) := by decide +kernel
theorem d_Mp_hasBoundary_15 : decode b_Mp_hasBoundary 15 = .ok (.getfield 56, 3) := by decide +kernel
theorem d_Mp_hasBoundary_18 : decode b_Mp_hasBoundary 18 = .ok (.invokevirtual 187, 3) := by decide +kernel
theorem d_Mp_hasBoundary_21 : decode b_Mp_hasBoundary 21 = .ok (.pop, 1) := by decide +kernel
theorem d_Mp_hasBoundary_22 : decode b_Mp_hasBoundary 22 = .ok (.aload_n 0, 1) := by decide +kernel
theorem d_Mp_hasBoundary_23 : decode b_Mp_hasBoundary 23 = .ok (.getfield 31, 3) := by decide +kernel
theorem d_Mp_hasBoundary_26 : decode b_Mp_hasBoundary 26 = .ok (.getfield 178, 3) := by decide +kernel
theorem d_Mp_hasBoundary_29 : decode b_Mp_hasBoundary 29 = .ok (.getfield 99, 3) := by decide +kernel
theorem d_Mp_hasBoundary_32 : decode b_Mp_hasBoundary 32 = .ok (.istore_n 2, 1) := by decide +kernel
theorem d_Mp_hasBoundary_33 : decode b_Mp_hasBoundary 33 = .ok (.iload_n 2, 1) := by decide +kernel
theorem d_Mp_hasBoundary_34 : decode b_Mp_hasBoundary 34 = .ok (.iconst 1, 1) := by decide +kernel
theorem d_Mp_hasBoundary_35 : decode b_Mp_hasBoundary 35 = .ok (.if_icmp .lt 28, 3) := by decide +kernel
theorem d_Mp_hasBoundary_38 : decode b_Mp_hasBoundary 38 = .ok (.iload_n 2, 1) := by decide +kernel
theorem d_Mp_hasBoundary_39 : decode b_Mp_hasBoundary 39 = .ok (.bipush 70, 2) := by decide +kernel
theorem d_Mp_hasBoundary_41 : decode b_Mp_hasBoundary 41 = .ok (.if_icmp .gt 22, 3) := by decide +kernel
theorem d_Mp_hasBoundary_44 : decode b_Mp_hasBoundary 44 = .ok (.aload_n 1, 1) := by decide +kernel
theorem d_Mp_hasBoundary_45 : decode b_Mp_hasBoundary 45 = .ok (.getfield 142, 3) := by decide +kernel
theorem d_Mp_hasBoundary_48 : decode b_Mp_hasBoundary 48 = .ok (.ifCond .lt 15, 3) := by decide +kernel
theorem d_Mp_hasBoundary_51 : decode b_Mp_hasBoundary 51 = .ok (.aload_n 1, 1) := by decide +kernel
theorem d_Mp_hasBoundary_52 : decode b_Mp_hasBoundary 52 = .ok (.getfield 142, 3) := by decide +kernel
theorem d_Mp_hasBoundary_55 : decode b_Mp_hasBoundary 55 = .ok (.aload_n 0, 1) := by decide +kernel
theorem d_Mp_hasBoundary_56 : decode b_Mp_hasBoundary 56 = .ok (.getfield 76, 3) := by decide +kernel
theorem d_Mp_hasBoundary_59 : decode b_Mp_hasBoundary 59 = .ok (.arraylength, 1) := by decide +kernel
theorem d_Mp_hasBoundary_60 : decode b_Mp_hasBoundary 60 = .ok (.if_icmp .lt 5, 3) := by decide +kernel
theorem d_Mp_hasBoundary_63 : decode b_Mp_hasBoundary 63 = .ok (.iconst 0, 1) := by decide +kernel
theorem d_Mp_hasBoundary_64 : decode b_Mp_hasBoundary 64 = .ok (.ireturn, 1) := by decide +kernel
theorem d_Mp_hasBoundary_65 : decode b_Mp_hasBoundary 65 = .ok (.aload_n 0, 1) := by decide +kernel
theorem d_Mp_hasBoundary_66 : decode b_Mp_hasBoundary 66 = .ok (.getfield 76, 3) := by decide +kernel
theorem d_Mp_hasBoundary_69 : decode b_Mp_hasBoundary 69 = .ok (.aload_n 1, 1) := by decide +kernel
theorem d_Mp_hasBoundary_70 : decode b_Mp_hasBoundary 70 = .ok (.getfield 142, 3) := by decide +kernel
theorem d_Mp_hasBoundary_73 : decode b_Mp_hasBoundary 73 = .ok (.aaload, 1) := by decide +kernel
theorem d_Mp_hasBoundary_74 : decode b_Mp_hasBoundary 74 = .ok (.invokevirtual 93, 3) := by decide +kernel
theorem d_Mp_hasBoundary_77 : decode b_Mp_hasBoundary 77 = .ok (.aload_n 0, 1) := by decide +kernel
theorem d_Mp_hasBoundary_78 : decode b_Mp_hasBoundary 78 = .ok (.getfield 76, 3) := by decide +kernel
theorem d_Mp_hasBoundary_81 : decode b_Mp_hasBoundary 81 = .ok (.aload_n 1, 1) := by decide +kernel
theorem d_Mp_hasBoundary_82 : decode b_Mp_hasBoundary 82 = .ok (.getfield 142, 3) := by decide +kernel
theorem d_Mp_hasBoundary_85 : decode b_Mp_hasBoundary 85 = .ok (.aaload, 1) := by decide +kernel
theorem d_Mp_hasBoundary_86 : decode b_Mp_hasBoundary 86 = .ok (.aload_n 0, 1) := by decide +kernel
theorem d_Mp_hasBoundary_87 : decode b_Mp_hasBoundary 87 = .ok (.getfield 31, 3) := by decide +kernel
theorem d_Mp_hasBoundary_90 : decode b_Mp_hasBoundary 90 = .ok (.getfield 178, 3) := by decide +kernel
theorem d_Mp_hasBoundary_93 : decode b_Mp_hasBoundary 93 = .ok (.iconst 0, 1) := by decide +kernel
theorem d_Mp_hasBoundary_94 : decode b_Mp_hasBoundary 94 = .ok (.iload_n 2, 1) := by decide +kernel
theorem d_Mp_hasBoundary_95 : decode b_Mp_hasBoundary 95 = .ok (.invokevirtual 195, 3) := by decide +kernel
theorem d_Mp_hasBoundary_98 : decode b_Mp_hasBoundary 98 = .ok (.iconst 1, 1) := by decide +kernel
theorem d_Mp_hasBoundary_99 : decode b_Mp_hasBoundary 99 = .ok (.ireturn, 1) := by decide +kernel
theorem d_Mp_isOpenCoding_0 : decode b_Mp_isOpenCoding 0 = .ok (.aload_n 0, 1) := by decide +kernel
theorem d_Mp_isOpenCoding_1 : decode b_Mp_isOpenCoding 1 = .ok (.aload_n 1, 1) := by decide +kernel
theorem d_Mp_isOpenCoding_2 : decode b_Mp_isOpenCoding 2 = .ok (.aload_n 0, 1) := by decide +kernel
theorem d_Mp_isOpenCoding_3 : decode b_Mp_isOpenCoding 3 = .ok (.getfield 46, 3) := by decide +kernel
theorem d_Mp_isOpenCoding_6 : decode b_Mp_isOpenCoding 6 = .ok (.invokevirtual 179, 3) := by decide +kernel
theorem d_Mp_isOpenCoding_9 : decode b_Mp_isOpenCoding 9 = .ok (.pop, 1) := by decide +kernel
theorem d_Mp_isOpenCoding_10 : decode b_Mp_isOpenCoding 10 = .ok (.aload_n 0, 1) := by decide +kernel
theorem d_Mp_isOpenCoding_11 : decode b_Mp_isOpenCoding 11 = .ok (.getfield 31, 3) := by decide +kernel
theorem d_Mp_isOpenCoding_14 : decode b_Mp_isOpenCoding 14 = .ok (.invokevirtual 256, 3) := by decide +kernel
theorem d_Mp_isOpenCoding_17 : decode b_Mp_isOpenCoding 17 = .ok (.aload_n 0, 1) := by decide +kernel
theorem d_Mp_isOpenCoding_18 : decode b_Mp_isOpenCoding 18 = .ok (.getfield 31, 3) := by decide +kernel
theorem d_Mp_isOpenCoding_21 : decode b_Mp_isOpenCoding 21 = .ok (.getfield 178, 3) := by decide +kernel
theorem d_Mp_isOpenCoding_24 : decode b_Mp_isOpenCoding 24 = .ok (.astore_n 2, 1) := by decide +kernel
theorem d_Mp_isOpenCoding_25 : decode b_Mp_isOpenCoding 25 = .ok (.aload_n 2, 1) := by decide +kernel
theorem d_Mp_isOpenCoding_26 : decode b_Mp_isOpenCoding 26 = .ok (.getfield 99, 3) := by decide +kernel
theorem d_Mp_isOpenCoding_29 : decode b_Mp_isOpenCoding 29 = .ok (.ifCond .eq 33, 3) := by decide +kernel
theorem d_Mp_isOpenCoding_32 : decode b_Mp_isOpenCoding 32 = .ok (.aload_n 2, 1) := by decide +kernel
theorem d_Mp_isOpenCoding_33 : decode b_Mp_isOpenCoding 33 = .ok (.ldc_w 280, 3) := by decide +kernel
theorem d_Mp_isOpenCoding_36 : decode b_Mp_isOpenCoding 36 = .ok (.invokevirtual 239, 3) := by decide +kernel
theorem d_Mp_isOpenCoding_39 : decode b_Mp_isOpenCoding 39 = .ok (.ifCond .ne 23, 3) := by decide +kernel
theorem d_Mp_isOpenCoding_42 : decode b_Mp_isOpenCoding 42 = .ok (.aload_n 2, 1) := by decide +kernel
theorem d_Mp_isOpenCoding_43 : decode b_Mp_isOpenCoding 43 = .ok (.ldc_w 282, 3) := by decide +kernel
theorem d_Mp_isOpenCoding_46 : decode b_Mp_isOpenCoding 46 = .ok (.invokevirtual 239, 3) := by decide +kernel
theorem d_Mp_isOpenCoding_49 : decode b_Mp_isOpenCoding 49 = .ok (.ifCond .ne 13, 3) := by decide +kernel
theorem d_Mp_isOpenCoding_52 : decode b_Mp_isOpenCoding 52 = .ok (.aload_n 2, 1) := by decide +kernel
theorem d_Mp_isOpenCoding_53 : decode b_Mp_isOpenCoding 53 = .ok (.ldc_w 284, 3) := by decide +kernel
theorem d_Mp_isOpenCoding_56 : decode b_Mp_isOpenCoding 56 = .ok (.invokevirtual 239, 3) := by decide +kernel
theorem d_Mp_isOpenCoding_59 : decode b_Mp_isOpenCoding 59 = .ok (.ifCond .eq 7, 3) := by decide +kernel
theorem d_Mp_isOpenCoding_62 : decode b_Mp_isOpenCoding 62 = .ok (.iconst 1, 1) := by decide +kernel
theorem d_Mp_isOpenCoding_63 : decode b_Mp_isOpenCoding 63 = .ok (.goto 4, 3) := by decide +kernel
theorem d_Mp_isOpenCoding_66 : decode b_Mp_isOpenCoding 66 = .ok (.iconst 0, 1) := by decide +kernel
theorem d_Mp_isOpenCoding_67 : decode b_Mp_isOpenCoding 67 = .ok (.ireturn, 1) := by decide +kernel
theorem d_Mp_chooseTexts_0 : decode b_Mp_chooseTexts 0 = .ok (.aload_n 0, 1) := by decide +kernel
theorem d_Mp_chooseTexts_1 : decode b_Mp_chooseTexts 1 = .ok (.getfield 86, 3) := by decide +kernel
theorem d_Mp_chooseTexts_4 : decode b_Mp_chooseTexts 4 = .ok (.iconst 1, 1) := by decide +kernel
theorem d_Mp_chooseTexts_5 : decode b_Mp_chooseTexts 5 = .ok (.isub, 1) := by decide +kernel
theorem d_Mp_chooseTexts_6 : decode b_Mp_chooseTexts 6 = .ok (.istore_n 1, 1) := by decide +kernel
theorem d_Mp_chooseTexts_7 : decode b_Mp_chooseTexts 7 = .ok (.iload_n 1, 1) := by decide +kernel
theorem d_Mp_chooseTexts_8 : decode b_Mp_chooseTexts 8 = .ok (.ifCond .lt 120, 3) := by decide +kernel
theorem d_Mp_chooseTexts_11 : decode b_Mp_chooseTexts 11 = .ok (.aload_n 0, 1) := by decide +kernel
theorem d_Mp_chooseTexts_12 : decode b_Mp_chooseTexts 12 = .ok (.iload_n 1, 1) := by decide +kernel
theorem d_Mp_chooseTexts_13 : decode b_Mp_chooseTexts 13 = .ok (.invokevirtual 132, 3) := by decide +kernel
theorem d_Mp_chooseTexts_16 : decode b_Mp_chooseTexts 16 = .ok (.astore_n 2, 1) := by decide +kernel
theorem d_Mp_chooseTexts_17 : decode b_Mp_chooseTexts 17 = .ok (.aload_n 2, 1) := by decide +kernel
theorem d_Mp_chooseTexts_18 : decode b_Mp_chooseTexts 18 = .ok (.ifnonnull 7, 3) := by decide +kernel
theorem d_Mp_chooseTexts_21 : decode b_Mp_chooseTexts 21 = .ok (.aconst_null, 1) := by decide +kernel
theorem d_Mp_chooseTexts_22 : decode b_Mp_chooseTexts 22 = .ok (.goto 11, 3) := by decide +kernel
theorem d_Mp_chooseTexts_25 : decode b_Mp_chooseTexts 25 = .ok (.aload_n 0, 1) := by decide +kernel
theorem d_Mp_chooseTexts_26 : decode b_Mp_chooseTexts 26 = .ok (.aload_n 2, 1) := by decide +kernel
theorem d_Mp_chooseTexts_27 : decode b_Mp_chooseTexts 27 = .ok (.getfield 139, 3) := by decide +kernel
theorem d_Mp_chooseTexts_30 : decode b_Mp_chooseTexts 30 = .ok (.invokevirtual 132, 3) := by decide +kernel
theorem d_Mp_chooseTexts_33 : decode b_Mp_chooseTexts 33 = .ok (.astore_n 3, 1) := by decide +kernel
theorem d_Mp_chooseTexts_34 : decode b_Mp_chooseTexts 34 = .ok (.aload_n 3, 1) := by decide +kernel
theorem d_Mp_chooseTexts_35 : decode b_Mp_chooseTexts 35 = .ok (.ifnull 87, 3) := by decide +kernel
theorem d_Mp_chooseTexts_38 : decode b_Mp_chooseTexts 38 = .ok (.aload_n 2, 1) := by decide +kernel
theorem d_Mp_chooseTexts_39 : decode b_Mp_chooseTexts 39 = .ok (.getfield 268, 3) := by decide +kernel
theorem d_Mp_chooseTexts_42 : decode b_Mp_chooseTexts 42 = .ok (.ifCond .eq 80, 3) := by decide +kernel
theorem d_Mp_chooseTexts_45 : decode b_Mp_chooseTexts 45 = .ok (.aload_n 3, 1) := by decide +kernel
theorem d_Mp_chooseTexts_46 : decode b_Mp_chooseTexts 46 = .ok (.getfield 248, 3) := by decide +kernel
theorem d_Mp_chooseTexts_49 : decode b_Mp_chooseTexts 49 = .ok (.ifCond .ne 34, 3) := by decide +kernel
theorem d_Mp_chooseTexts_52 : decode b_Mp_chooseTexts 52 = .ok (.aload_n 3, 1) := by decide +kernel
theorem d_Mp_chooseTexts_53 : decode b_Mp_chooseTexts 53 = .ok (.aload_n 3, 1) := by decide +kernel
theorem d_Mp_chooseTexts_54 : decode b_Mp_chooseTexts 54 = .ok (.getfield 271, 3) := by decide +kernel
theorem d_Mp_chooseTexts_57 : decode b_Mp_chooseTexts 57 = .ok (.ifCond .ne 10, 3) := by decide +kernel
theorem d_Mp_chooseTexts_60 : decode b_Mp_chooseTexts 60 = .ok (.aload_n 2, 1) := by decide +kernel
theorem d_Mp_chooseTexts_61 : decode b_Mp_chooseTexts 61 = .ok (.getfield 271, 3) := by decide +kernel
theorem d_Mp_chooseTexts_64 : decode b_Mp_chooseTexts 64 = .ok (.ifCond .eq 7, 3) := by decide +kernel
theorem d_Mp_chooseTexts_67 : decode b_Mp_chooseTexts 67 = .ok (.iconst 1, 1) := by decide +kernel
theorem d_Mp_chooseTexts_68 : decode b_Mp_chooseTexts 68 = .ok (.goto 4, 3) := by decide +kernel
theorem d_Mp_chooseTexts_71 : decode b_Mp_chooseTexts 71 = .ok (.iconst 0, 1) := by decide +kernel
theorem d_Mp_chooseTexts_72 : decode b_Mp_chooseTexts 72 = .ok (.putfield 271, 3) := by decide +kernel
theorem d_Mp_chooseTexts_75 : decode b_Mp_chooseTexts 75 = .ok (.aload_n 3, 1) := by decide +kernel
theorem d_Mp_chooseTexts_76 : decode b_Mp_chooseTexts 76 = .ok (.iconst 1, 1) := by decide +kernel
theorem d_Mp_chooseTexts_77 : decode b_Mp_chooseTexts 77 = .ok (.putfield 268, 3) := by decide +kernel
theorem d_Mp_chooseTexts_80 : decode b_Mp_chooseTexts 80 = .ok (.goto 42, 3) := by decide +kernel
theorem d_Mp_chooseTexts_83 : decode b_Mp_chooseTexts 83 = .ok (.aload_n 3, 1) := by decide +kernel
theorem d_Mp_chooseTexts_84 : decode b_Mp_chooseTexts 84 = .ok (.getfield 268, 3) := by decide +kernel
theorem d_Mp_chooseTexts_87 : decode b_Mp_chooseTexts 87 = .ok (.ifCond .eq 17, 3) := by decide +kernel
theorem d_Mp_chooseTexts_90 : decode b_Mp_chooseTexts 90 = .ok (.aload_n 3, 1) := by decide +kernel
theorem d_Mp_chooseTexts_91 : decode b_Mp_chooseTexts 91 = .ok (.getfield 271, 3) := by decide +kernel
theorem d_Mp_chooseTexts_94 : decode b_Mp_chooseTexts 94 = .ok (.ifCond .eq 28, 3) := by decide +kernel
theorem d_Mp_chooseTexts_97 : decode b_Mp_chooseTexts 97 = .ok (.aload_n 2, 1) := by decide +kernel
theorem d_Mp_chooseTexts_98 : decode b_Mp_chooseTexts 98 = .ok (.getfield 271, 3) := by decide +kernel
theorem d_Mp_chooseTexts_101 : decode b_Mp_chooseTexts 101 = .ok (.ifCond .ne 21, 3) := by decide +kernel
theorem d_Mp_chooseTexts_104 : decode b_Mp_chooseTexts 104 = .ok (.aload_n 3, 1) := by decide +kernel
theorem d_Mp_chooseTexts_105 : decode b_Mp_chooseTexts 105 = .ok (.aload_n 2, 1) := by decide +kernel
theorem d_Mp_chooseTexts_106 : decode b_Mp_chooseTexts 106 = .ok (.getfield 271, 3) := by decide +kernel
theorem d_Mp_chooseTexts_109 : decode b_Mp_chooseTexts 109 = .ok (.putfield 271, 3) := by decide +kernel
theorem d_Mp_chooseTexts_112 : decode b_Mp_chooseTexts 112 = .ok (.aload_n 3, 1) := by decide +kernel
theorem d_Mp_chooseTexts_113 : decode b_Mp_chooseTexts 113 = .ok (.iconst 1, 1) := by decide +kernel
theorem d_Mp_chooseTexts_114 : decode b_Mp_chooseTexts 114 = .ok (.putfield 268, 3) := by decide +kernel
theorem d_Mp_chooseTexts_117 : decode b_Mp_chooseTexts 117 = .ok (.aload_n 3, 1) := by decide +kernel
theorem d_Mp_chooseTexts_118 : decode b_Mp_chooseTexts 118 = .ok (.iload_n 1, 1) := by decide +kernel
theorem d_Mp_chooseTexts_119 : decode b_Mp_chooseTexts 119 = .ok (.putfield 277, 3) := by decide +kernel
theorem d_Mp_chooseTexts_122 : decode b_Mp_chooseTexts 122 = .ok (.iinc 1 (-1), 3) := by decide +kernel
theorem d_Mp_chooseTexts_125 : decode b_Mp_chooseTexts 125 = .ok (.goto (-118), 3) := by decide +kernel
theorem d_Mp_chooseTexts_128 : decode b_Mp_chooseTexts 128 = .ok (.return_, 1) := by decide +kernel
theorem d_Mp_listLeaves_0 : decode b_Mp_listLeaves 0 = .ok (.aload_n 0, 1) := by decide +kernel
theorem d_Mp_listLeaves_1 : decode b_Mp_listLeaves 1 = .ok (.getfield 80, 3) := by decide +kernel
theorem d_Mp_listLeaves_4 : decode b_Mp_listLeaves 4 = .ok (.invokevirtual 93, 3) := by decide +kernel
theorem d_Mp_listLeaves_7 : decode b_Mp_listLeaves 7 = .ok (.aload_n 0, 1) := by decide +kernel
theorem d_Mp_listLeaves_8 : decode b_Mp_listLeaves 8 = .ok (.getfield 83, 3) := by decide +kernel
theorem d_Mp_listLeaves_11 : decode b_Mp_listLeaves 11 = .ok (.invokevirtual 93, 3) := by decide +kernel
theorem d_Mp_listLeaves_14 : decode b_Mp_listLeaves 14 = .ok (.iconst 0, 1) := by decide +kernel
theorem d_Mp_listLeaves_15 : decode b_Mp_listLeaves 15 = .ok (.istore_n 1, 1) := by decide +kernel
theorem d_Mp_listLeaves_16 : decode b_Mp_listLeaves 16 = .ok (.iload_n 1, 1) := by decide +kernel
theorem d_Mp_listLeaves_17 : decode b_Mp_listLeaves 17 = .ok (.aload_n 0, 1) := by decide +kernel
theorem d_Mp_listLeaves_18 : decode b_Mp_listLeaves 18 = .ok (.getfield 86, 3) := by decide +kernel
theorem d_Mp_listLeaves_21 : decode b_Mp_listLeaves 21 = .ok (.if_icmp .ge 107, 3) := by decide +kernel
theorem d_Mp_listLeaves_24 : decode b_Mp_listLeaves 24 = .ok (.aload_n 0, 1) := by decide +kernel
theorem d_Mp_listLeaves_25 : decode b_Mp_listLeaves 25 = .ok (.iload_n 1, 1) := by decide +kernel
theorem d_Mp_listLeaves_26 : decode b_Mp_listLeaves 26 = .ok (.invokevirtual 132, 3) := by decide +kernel
theorem d_Mp_listLeaves_29 : decode b_Mp_listLeaves 29 = .ok (.astore_n 2, 1) := by decide +kernel
theorem d_Mp_listLeaves_30 : decode b_Mp_listLeaves 30 = .ok (.aload_n 2, 1) := by decide +kernel
theorem d_Mp_listLeaves_31 : decode b_Mp_listLeaves 31 = .ok (.ifnull 91, 3) := by decide +kernel
theorem d_Mp_listLeaves_34 : decode b_Mp_listLeaves 34 = .ok (.aload_n 0, 1) := by decide +kernel
theorem d_Mp_listLeaves_35 : decode b_Mp_listLeaves 35 = .ok (.aload_n 2, 1) := by decide +kernel
theorem d_Mp_listLeaves_36 : decode b_Mp_listLeaves 36 = .ok (.getfield 139, 3) := by decide +kernel
theorem d_Mp_listLeaves_39 : decode b_Mp_listLeaves 39 = .ok (.invokevirtual 132, 3) := by decide +kernel
theorem d_Mp_listLeaves_42 : decode b_Mp_listLeaves 42 = .ok (.astore_n 3, 1) := by decide +kernel
theorem d_Mp_listLeaves_43 : decode b_Mp_listLeaves 43 = .ok (.aload_n 2, 1) := by decide +kernel
theorem d_Mp_listLeaves_44 : decode b_Mp_listLeaves 44 = .ok (.aload_n 3, 1) := by decide +kernel
theorem d_Mp_listLeaves_45 : decode b_Mp_listLeaves 45 = .ok (.ifnull 25, 3) := by decide +kernel
theorem d_Mp_listLeaves_48 : decode b_Mp_listLeaves 48 = .ok (.aload_n 3, 1) := by decide +kernel
theorem d_Mp_listLeaves_49 : decode b_Mp_listLeaves 49 = .ok (.getfield 286, 3) := by decide +kernel
theorem d_Mp_listLeaves_52 : decode b_Mp_listLeaves 52 = .ok (.ifCond .eq 22, 3) := by decide +kernel
theorem d_Mp_listLeaves_55 : decode b_Mp_listLeaves 55 = .ok (.aload_n 3, 1) := by decide +kernel
theorem d_Mp_listLeaves_56 : decode b_Mp_listLeaves 56 = .ok (.getfield 248, 3) := by decide +kernel
theorem d_Mp_listLeaves_59 : decode b_Mp_listLeaves 59 = .ok (.ifCond .eq 11, 3) := by decide +kernel
theorem d_Mp_listLeaves_62 : decode b_Mp_listLeaves 62 = .ok (.aload_n 3, 1) := by decide +kernel
theorem d_Mp_listLeaves_63 : decode b_Mp_listLeaves 63 = .ok (.getfield 277, 3) := by decide +kernel
theorem d_Mp_listLeaves_66 : decode b_Mp_listLeaves 66 = .ok (.iload_n 1, 1) := by decide +kernel
theorem d_Mp_listLeaves_67 : decode b_Mp_listLeaves 67 = .ok (.if_icmp .ne 7, 3) := by decide +kernel
theorem d_Mp_listLeaves_70 : decode b_Mp_listLeaves 70 = .ok (.iconst 1, 1) := by decide +kernel
theorem d_Mp_listLeaves_71 : decode b_Mp_listLeaves 71 = .ok (.goto 4, 3) := by decide +kernel
theorem d_Mp_listLeaves_74 : decode b_Mp_listLeaves 74 = .ok (.iconst 0, 1) := by decide +kernel
theorem d_Mp_listLeaves_75 : decode b_Mp_listLeaves 75 = .ok (.putfield 286, 3) := by decide +kernel
theorem d_Mp_listLeaves_78 : decode b_Mp_listLeaves 78 = .ok (.aload_n 2, 1) := by decide +kernel
theorem d_Mp_listLeaves_79 : decode b_Mp_listLeaves 79 = .ok (.getfield 136, 3) := by decide +kernel
theorem d_Mp_listLeaves_82 : decode b_Mp_listLeaves 82 = .ok (.ifCond .ne 25, 3) := by decide +kernel
theorem d_Mp_listLeaves_85 : decode b_Mp_listLeaves 85 = .ok (.aload_n 2, 1) := by decide +kernel
theorem d_Mp_listLeaves_86 : decode b_Mp_listLeaves 86 = .ok (.getfield 286, 3) := by decide +kernel
theorem d_Mp_listLeaves_89 : decode b_Mp_listLeaves 89 = .ok (.ifCond .eq 18, 3) := by decide +kernel
theorem d_Mp_listLeaves_92 : decode b_Mp_listLeaves 92 = .ok (.aload_n 2, 1) := by decide +kernel
theorem d_Mp_listLeaves_93 : decode b_Mp_listLeaves 93 = .ok (.getfield 268, 3) := by decide +kernel
theorem d_Mp_listLeaves_96 : decode b_Mp_listLeaves 96 = .ok (.ifCond .eq 11, 3) := by decide +kernel
theorem d_Mp_listLeaves_99 : decode b_Mp_listLeaves 99 = .ok (.aload_n 0, 1) := by decide +kernel
theorem d_Mp_listLeaves_100 : decode b_Mp_listLeaves 100 = .ok (.getfield 80, 3) := by decide +kernel
theorem d_Mp_listLeaves_103 : decode b_Mp_listLeaves 103 = .ok (.iload_n 1, 1) := by decide +kernel
theorem d_Mp_listLeaves_104 : decode b_Mp_listLeaves 104 = .ok (.invokevirtual 112, 3) := by decide +kernel
theorem d_Mp_listLeaves_107 : decode b_Mp_listLeaves 107 = .ok (.aload_n 2, 1) := by decide +kernel
theorem d_Mp_listLeaves_108 : decode b_Mp_listLeaves 108 = .ok (.getfield 274, 3) := by decide +kernel
theorem d_Mp_listLeaves_111 : decode b_Mp_listLeaves 111 = .ok (.ifCond .eq 11, 3) := by decide +kernel
theorem d_Mp_listLeaves_114 : decode b_Mp_listLeaves 114 = .ok (.aload_n 0, 1) := by decide +kernel
theorem d_Mp_listLeaves_115 : decode b_Mp_listLeaves 115 = .ok (.getfield 83, 3) := by decide +kernel
theorem d_Mp_listLeaves_118 : decode b_Mp_listLeaves 118 = .ok (.iload_n 1, 1) := by decide +kernel
theorem d_Mp_listLeaves_119 : decode b_Mp_listLeaves 119 = .ok (.invokevirtual 112, 3) := by decide +kernel
theorem d_Mp_listLeaves_122 : decode b_Mp_listLeaves 122 = .ok (.iinc 1 1, 3) := by decide +kernel
theorem d_Mp_listLeaves_125 : decode b_Mp_listLeaves 125 = .ok (.goto (-109), 3) := by decide +kernel
theorem d_Mp_listLeaves_128 : decode b_Mp_listLeaves 128 = .ok (.return_, 1) := by decide +kernel
theorem d_Mp_loadWord_0 : decode b_Mp_loadWord 0 = .ok (.aload_n 0, 1) := by decide +kernel
theorem d_Mp_loadWord_1 : decode b_Mp_loadWord 1 = .ok (.iload_n 1, 1) := by decide +kernel
theorem d_Mp_loadWord_2 : decode b_Mp_loadWord 2 = .ok (.invokevirtual 132, 3) := by decide +kernel
theorem d_Mp_loadWord_5 : decode b_Mp_loadWord 5 = .ok (.astore_n 3, 1) := by decide +kernel
theorem d_Mp_loadWord_6 : decode b_Mp_loadWord 6 = .ok (.aload_n 3, 1) := by decide +kernel
theorem d_Mp_loadWord_7 : decode b_Mp_loadWord 7 = .ok (.ifnonnull 5, 3) := by decide +kernel
theorem d_Mp_loadWord_10 : decode b_Mp_loadWord 10 = .ok (.iconst 0, 1) := by decide +kernel
theorem d_Mp_loadWord_11 : decode b_Mp_loadWord 11 = .ok (.ireturn, 1) := by decide +kernel
theorem d_Mp_loadWord_12 : decode b_Mp_loadWord 12 = .ok (.iload_n 2, 1) := by decide +kernel
theorem d_Mp_loadWord_13 : decode b_Mp_loadWord 13 = .ok (.tableswitch 60 0 2 #[27, 34, 53], 27) := by decide +kernel
theorem d_Mp_loadWord_40 : decode b_Mp_loadWord 40 = .ok (.aload_n 0, 1) := by decide +kernel
theorem d_Mp_loadWord_41 : decode b_Mp_loadWord 41 = .ok (.aload_n 3, 1) := by decide +kernel
theorem d_Mp_loadWord_42 : decode b_Mp_loadWord 42 = .ok (.invokevirtual 228, 3) := by decide +kernel
theorem d_Mp_loadWord_45 : decode b_Mp_loadWord 45 = .ok (.iconst 1, 1) := by decide +kernel
theorem d_Mp_loadWord_46 : decode b_Mp_loadWord 46 = .ok (.ireturn, 1) := by decide +kernel
theorem d_Mp_loadWord_47 : decode b_Mp_loadWord 47 = .ok (.aload_n 0, 1) := by decide +kernel
theorem d_Mp_loadWord_48 : decode b_Mp_loadWord 48 = .ok (.aload_n 3, 1) := by decide +kernel
theorem d_Mp_loadWord_49 : decode b_Mp_loadWord 49 = .ok (.aload_n 0, 1) := by decide +kernel
theorem d_Mp_loadWord_50 : decode b_Mp_loadWord 50 = .ok (.getfield 46, 3) := by decide +kernel
theorem d_Mp_loadWord_53 : decode b_Mp_loadWord 53 = .ok (.invokevirtual 179, 3) := by decide +kernel
theorem d_Mp_loadWord_56 : decode b_Mp_loadWord 56 = .ok (.pop, 1) := by decide +kernel
theorem d_Mp_loadWord_57 : decode b_Mp_loadWord 57 = .ok (.aload_n 0, 1) := by decide +kernel
theorem d_Mp_loadWord_58 : decode b_Mp_loadWord 58 = .ok (.getfield 31, 3) := by decide +kernel
theorem d_Mp_loadWord_61 : decode b_Mp_loadWord 61 = .ok (.invokevirtual 256, 3) := by decide +kernel
theorem d_Mp_loadWord_64 : decode b_Mp_loadWord 64 = .ok (.iconst 1, 1) := by decide +kernel
theorem d_Mp_loadWord_65 : decode b_Mp_loadWord 65 = .ok (.ireturn, 1) := by decide +kernel
theorem d_Mp_loadWord_66 : decode b_Mp_loadWord 66 = .ok (.aload_n 0, 1) := by decide +kernel
theorem d_Mp_loadWord_67 : decode b_Mp_loadWord 67 = .ok (.aload_n 3, 1) := by decide +kernel
theorem d_Mp_loadWord_68 : decode b_Mp_loadWord 68 = .ok (.invokevirtual 289, 3) := by decide +kernel
theorem d_Mp_loadWord_71 : decode b_Mp_loadWord 71 = .ok (.iconst 1, 1) := by decide +kernel
theorem d_Mp_loadWord_72 : decode b_Mp_loadWord 72 = .ok (.ireturn, 1) := by decide +kernel
theorem d_Mp_loadWord_73 : decode b_Mp_loadWord 73 = .ok (.iconst 0, 1) := by decide +kernel
theorem d_Mp_loadWord_74 : decode b_Mp_loadWord 74 = .ok (.ireturn, 1) := by decide +kernel
theorem d_Mp_loadType_0 : decode b_Mp_loadType 0 = .ok (.aload_n 0, 1) := by decide +kernel
theorem d_Mp_loadType_1 : decode b_Mp_loadType 1 = .ok (.aload_n 1, 1) := by decide +kernel
theorem d_Mp_loadType_2 : decode b_Mp_loadType 2 = .ok (.aload_n 0, 1) := by decide +kernel
theorem d_Mp_loadType_3 : decode b_Mp_loadType 3 = .ok (.getfield 41, 3) := by decide +kernel
theorem d_Mp_loadType_6 : decode b_Mp_loadType 6 = .ok (.invokevirtual 179, 3) := by decide +kernel
theorem d_Mp_loadType_9 : decode b_Mp_loadType 9 = .ok (.pop, 1) := by decide +kernel
theorem d_Mp_loadType_10 : decode b_Mp_loadType 10 = .ok (.aload_n 0, 1) := by decide +kernel
theorem d_Mp_loadType_11 : decode b_Mp_loadType 11 = .ok (.getfield 31, 3) := by decide +kernel
theorem d_Mp_loadType_14 : decode b_Mp_loadType 14 = .ok (.invokevirtual 256, 3) := by decide +kernel
theorem d_Mp_loadType_17 : decode b_Mp_loadType 17 = .ok (.aload_n 0, 1) := by decide +kernel
theorem d_Mp_loadType_18 : decode b_Mp_loadType 18 = .ok (.getfield 31, 3) := by decide +kernel
theorem d_Mp_loadType_21 : decode b_Mp_loadType 21 = .ok (.invokevirtual 292, 3) := by decide +kernel
theorem d_Mp_loadType_24 : decode b_Mp_loadType 24 = .ok (.ifCond .ne 41, 3) := by decide +kernel
theorem d_Mp_loadType_27 : decode b_Mp_loadType 27 = .ok (.aload_n 0, 1) := by decide +kernel
theorem d_Mp_loadType_28 : decode b_Mp_loadType 28 = .ok (.aload_n 1, 1) := by decide +kernel
theorem d_Mp_loadType_29 : decode b_Mp_loadType 29 = .ok (.getfield 139, 3) := by decide +kernel
theorem d_Mp_loadType_32 : decode b_Mp_loadType 32 = .ok (.invokevirtual 132, 3) := by decide +kernel
theorem d_Mp_loadType_35 : decode b_Mp_loadType 35 = .ok (.astore_n 2, 1) := by decide +kernel
theorem d_Mp_loadType_36 : decode b_Mp_loadType 36 = .ok (.aload_n 0, 1) := by decide +kernel
theorem d_Mp_loadType_37 : decode b_Mp_loadType 37 = .ok (.getfield 31, 3) := by decide +kernel
theorem d_Mp_loadType_40 : decode b_Mp_loadType 40 = .ok (.getfield 178, 3) := by decide +kernel
theorem d_Mp_loadType_43 : decode b_Mp_loadType 43 = .ok (.aload_n 2, 1) := by decide +kernel
theorem d_Mp_loadType_44 : decode b_Mp_loadType 44 = .ok (.ifnull 15, 3) := by decide +kernel
theorem d_Mp_loadType_47 : decode b_Mp_loadType 47 = .ok (.aload_n 2, 1) := by decide +kernel
theorem d_Mp_loadType_48 : decode b_Mp_loadType 48 = .ok (.getfield 253, 3) := by decide +kernel
theorem d_Mp_loadType_51 : decode b_Mp_loadType 51 = .ok (.ifCond .eq 8, 3) := by decide +kernel
theorem d_Mp_loadType_54 : decode b_Mp_loadType 54 = .ok (.ldc 244, 2) := by decide +kernel
theorem d_Mp_loadType_56 : decode b_Mp_loadType 56 = .ok (.goto 6, 3) := by decide +kernel
theorem d_Mp_loadType_59 : decode b_Mp_loadType 59 = .ok (.ldc_w 296, 3) := by decide +kernel
theorem d_Mp_loadType_62 : decode b_Mp_loadType 62 = .ok (.invokevirtual 298, 3) := by decide +kernel
theorem d_Mp_loadType_65 : decode b_Mp_loadType 65 = .ok (.return_, 1) := by decide +kernel
theorem d_Mp_loadName_0 : decode b_Mp_loadName 0 = .ok (.aload_n 0, 1) := by decide +kernel
theorem d_Mp_loadName_1 : decode b_Mp_loadName 1 = .ok (.aload_n 1, 1) := by decide +kernel
theorem d_Mp_loadName_2 : decode b_Mp_loadName 2 = .ok (.aload_n 0, 1) := by decide +kernel
theorem d_Mp_loadName_3 : decode b_Mp_loadName 3 = .ok (.getfield 51, 3) := by decide +kernel
theorem d_Mp_loadName_6 : decode b_Mp_loadName 6 = .ok (.invokevirtual 179, 3) := by decide +kernel
theorem d_Mp_loadName_9 : decode b_Mp_loadName 9 = .ok (.pop, 1) := by decide +kernel
theorem d_Mp_loadName_10 : decode b_Mp_loadName 10 = .ok (.aload_n 0, 1) := by decide +kernel
theorem d_Mp_loadName_11 : decode b_Mp_loadName 11 = .ok (.getfield 31, 3) := by decide +kernel
theorem d_Mp_loadName_14 : decode b_Mp_loadName 14 = .ok (.aload_n 0, 1) := by decide +kernel
theorem d_Mp_loadName_15 : decode b_Mp_loadName 15 = .ok (.getfield 61, 3) := by decide +kernel
theorem d_Mp_loadName_18 : decode b_Mp_loadName 18 = .ok (.invokevirtual 187, 3) := by decide +kernel
theorem d_Mp_loadName_21 : decode b_Mp_loadName 21 = .ok (.ifCond .ne 25, 3) := by decide +kernel
theorem d_Mp_loadName_24 : decode b_Mp_loadName 24 = .ok (.aload_n 0, 1) := by decide +kernel
theorem d_Mp_loadName_25 : decode b_Mp_loadName 25 = .ok (.aload_n 1, 1) := by decide +kernel
theorem d_Mp_loadName_26 : decode b_Mp_loadName 26 = .ok (.aload_n 0, 1) := by decide +kernel
theorem d_Mp_loadName_27 : decode b_Mp_loadName 27 = .ok (.getfield 41, 3) := by decide +kernel
theorem d_Mp_loadName_30 : decode b_Mp_loadName 30 = .ok (.invokevirtual 179, 3) := by decide +kernel
theorem d_Mp_loadName_33 : decode b_Mp_loadName 33 = .ok (.pop, 1) := by decide +kernel
theorem d_Mp_loadName_34 : decode b_Mp_loadName 34 = .ok (.aload_n 0, 1) := by decide +kernel
theorem d_Mp_loadName_35 : decode b_Mp_loadName 35 = .ok (.getfield 31, 3) := by decide +kernel
theorem d_Mp_loadName_38 : decode b_Mp_loadName 38 = .ok (.aload_n 0, 1) := by decide +kernel
theorem d_Mp_loadName_39 : decode b_Mp_loadName 39 = .ok (.getfield 66, 3) := by decide +kernel
theorem d_Mp_loadName_42 : decode b_Mp_loadName 42 = .ok (.invokevirtual 187, 3) := by decide +kernel
theorem d_Mp_loadName_45 : decode b_Mp_loadName 45 = .ok (.pop, 1) := by decide +kernel
theorem d_Mp_loadName_46 : decode b_Mp_loadName 46 = .ok (.return_, 1) := by decide +kernel
theorem d_Mp_loadField_0 : decode b_Mp_loadField 0 = .ok (.aload_n 0, 1) := by decide +kernel
theorem d_Mp_loadField_1 : decode b_Mp_loadField 1 = .ok (.getfield 24, 3) := by decide +kernel
theorem d_Mp_loadField_4 : decode b_Mp_loadField 4 = .ok (.aload_n 1, 1) := by decide +kernel
theorem d_Mp_loadField_5 : decode b_Mp_loadField 5 = .ok (.getfield 149, 3) := by decide +kernel
theorem d_Mp_loadField_8 : decode b_Mp_loadField 8 = .ok (.aload_n 1, 1) := by decide +kernel
theorem d_Mp_loadField_9 : decode b_Mp_loadField 9 = .ok (.getfield 164, 3) := by decide +kernel
theorem d_Mp_loadField_12 : decode b_Mp_loadField 12 = .ok (.aload_n 2, 1) := by decide +kernel
theorem d_Mp_loadField_13 : decode b_Mp_loadField 13 = .ok (.invokevirtual 205, 3) := by decide +kernel
theorem d_Mp_loadField_16 : decode b_Mp_loadField 16 = .ok (.istore_n 3, 1) := by decide +kernel
theorem d_Mp_loadField_17 : decode b_Mp_loadField 17 = .ok (.aload_n 0, 1) := by decide +kernel
theorem d_Mp_loadField_18 : decode b_Mp_loadField 18 = .ok (.getfield 31, 3) := by decide +kernel
theorem d_Mp_loadField_21 : decode b_Mp_loadField 21 = .ok (.getfield 178, 3) := by decide +kernel
theorem d_Mp_loadField_24 : decode b_Mp_loadField 24 = .ok (.invokevirtual 93, 3) := by decide +kernel
theorem d_Mp_loadField_27 : decode b_Mp_loadField 27 = .ok (.iload_n 3, 1) := by decide +kernel
theorem d_Mp_loadField_28 : decode b_Mp_loadField 28 = .ok (.iconst (-1), 1) := by decide +kernel
theorem d_Mp_loadField_29 : decode b_Mp_loadField 29 = .ok (.if_icmp .ne 5, 3) := by decide +kernel
theorem d_Mp_loadField_32 : decode b_Mp_loadField 32 = .ok (.iconst 0, 1) := by decide +kernel
theorem d_Mp_loadField_33 : decode b_Mp_loadField 33 = .ok (.ireturn, 1) := by decide +kernel
theorem d_Mp_loadField_34 : decode b_Mp_loadField 34 = .ok (.aload_n 0, 1) := by decide +kernel
theorem d_Mp_loadField_35 : decode b_Mp_loadField 35 = .ok (.getfield 24, 3) := by decide +kernel
theorem d_Mp_loadField_38 : decode b_Mp_loadField 38 = .ok (.iload_n 3, 1) := by decide +kernel
theorem d_Mp_loadField_39 : decode b_Mp_loadField 39 = .ok (.aload_n 1, 1) := by decide +kernel
theorem d_Mp_loadField_40 : decode b_Mp_loadField 40 = .ok (.getfield 164, 3) := by decide +kernel
theorem d_Mp_loadField_43 : decode b_Mp_loadField 43 = .ok (.aload_n 0, 1) := by decide +kernel
theorem d_Mp_loadField_44 : decode b_Mp_loadField 44 = .ok (.getfield 31, 3) := by decide +kernel
theorem d_Mp_loadField_47 : decode b_Mp_loadField 47 = .ok (.getfield 178, 3) := by decide +kernel
theorem d_Mp_loadField_50 : decode b_Mp_loadField 50 = .ok (.invokevirtual 302, 3) := by decide +kernel
theorem d_Mp_loadField_53 : decode b_Mp_loadField 53 = .ok (.iconst 1, 1) := by decide +kernel
theorem d_Mp_loadField_54 : decode b_Mp_loadField 54 = .ok (.ireturn, 1) := by decide +kernel
theorem d_Mp_rowOf_0 : decode b_Mp_rowOf 0 = .ok (.new 7, 3) := by decide +kernel
theorem d_Mp_rowOf_3 : decode b_Mp_rowOf 3 = .ok (.dup, 1) := by decide +kernel
theorem d_Mp_rowOf_4 : decode b_Mp_rowOf 4 = .ok (.aload_n 0, 1) := by decide +kernel
theorem d_Mp_rowOf_5 : decode b_Mp_rowOf 5 = .ok (.invokevirtual 305, 3) := by decide +kernel
theorem d_Mp_rowOf_8 : decode b_Mp_rowOf 8 = .ok (.invokespecial 11, 3) := by decide +kernel
theorem d_Mp_rowOf_11 : decode b_Mp_rowOf 11 = .ok (.astore_n 1, 1) := by decide +kernel
theorem d_Mp_rowOf_12 : decode b_Mp_rowOf 12 = .ok (.aload_n 1, 1) := by decide +kernel
theorem d_Mp_rowOf_13 : decode b_Mp_rowOf 13 = .ok (.aload_n 0, 1) := by decide +kernel
theorem d_Mp_rowOf_14 : decode b_Mp_rowOf 14 = .ok (.invokevirtual 298, 3) := by decide +kernel
theorem d_Mp_rowOf_17 : decode b_Mp_rowOf 17 = .ok (.aload_n 1, 1) := by decide +kernel
theorem d_Mp_rowOf_18 : decode b_Mp_rowOf 18 = .ok (.areturn, 1) := by decide +kernel
theorem d_Mp_isBlank_0 : decode b_Mp_isBlank 0 = .ok (.iload_n 0, 1) := by decide +kernel
theorem d_Mp_isBlank_1 : decode b_Mp_isBlank 1 = .ok (.bipush 32, 2) := by decide +kernel
theorem d_Mp_isBlank_3 : decode b_Mp_isBlank 3 = .ok (.if_icmp .eq 9, 3) := by decide +kernel
theorem d_Mp_isBlank_6 : decode b_Mp_isBlank 6 = .ok (.iload_n 0, 1) := by decide +kernel
theorem d_Mp_isBlank_7 : decode b_Mp_isBlank 7 = .ok (.bipush 9, 2) := by decide +kernel
theorem d_Mp_isBlank_9 : decode b_Mp_isBlank 9 = .ok (.if_icmp .ne 7, 3) := by decide +kernel
theorem d_Mp_isBlank_12 : decode b_Mp_isBlank 12 = .ok (.iconst 1, 1) := by decide +kernel
theorem d_Mp_isBlank_13 : decode b_Mp_isBlank 13 = .ok (.goto 4, 3) := by decide +kernel
theorem d_Mp_isBlank_16 : decode b_Mp_isBlank 16 = .ok (.iconst 0, 1) := by decide +kernel
theorem d_Mp_isBlank_17 : decode b_Mp_isBlank 17 = .ok (.ireturn, 1) := by decide +kernel
theorem d_Mp_isNameByte_0 : decode b_Mp_isNameByte 0 = .ok (.iload_n 0, 1) := by decide +kernel
theorem d_Mp_isNameByte_1 : decode b_Mp_isNameByte 1 = .ok (.bipush 97, 2) := by decide +kernel
theorem d_Mp_isNameByte_3 : decode b_Mp_isNameByte 3 = .ok (.if_icmp .lt 9, 3) := by decide +kernel
theorem d_Mp_isNameByte_6 : decode b_Mp_isNameByte 6 = .ok (.iload_n 0, 1) := by decide +kernel
theorem d_Mp_isNameByte_7 : decode b_Mp_isNameByte 7 = .ok (.bipush 122, 2) := by decide +kernel
theorem d_Mp_isNameByte_9 : decode b_Mp_isNameByte 9 = .ok (.if_icmp .le 33, 3) := by decide +kernel
theorem d_Mp_isNameByte_12 : decode b_Mp_isNameByte 12 = .ok (.iload_n 0, 1) := by decide +kernel
theorem d_Mp_isNameByte_13 : decode b_Mp_isNameByte 13 = .ok (.bipush 65, 2) := by decide +kernel
theorem d_Mp_isNameByte_15 : decode b_Mp_isNameByte 15 = .ok (.if_icmp .lt 9, 3) := by decide +kernel
theorem d_Mp_isNameByte_18 : decode b_Mp_isNameByte 18 = .ok (.iload_n 0, 1) := by decide +kernel
theorem d_Mp_isNameByte_19 : decode b_Mp_isNameByte 19 = .ok (.bipush 90, 2) := by decide +kernel
theorem d_Mp_isNameByte_21 : decode b_Mp_isNameByte 21 = .ok (.if_icmp .le 21, 3) := by decide +kernel
theorem d_Mp_isNameByte_24 : decode b_Mp_isNameByte 24 = .ok (.iload_n 0, 1) := by decide +kernel
theorem d_Mp_isNameByte_25 : decode b_Mp_isNameByte 25 = .ok (.bipush 48, 2) := by decide +kernel
theorem d_Mp_isNameByte_27 : decode b_Mp_isNameByte 27 = .ok (.if_icmp .lt 9, 3) := by decide +kernel
theorem d_Mp_isNameByte_30 : decode b_Mp_isNameByte 30 = .ok (.iload_n 0, 1) := by decide +kernel
theorem d_Mp_isNameByte_31 : decode b_Mp_isNameByte 31 = .ok (.bipush 57, 2) := by decide +kernel
theorem d_Mp_isNameByte_33 : decode b_Mp_isNameByte 33 = .ok (.if_icmp .le 9, 3) := by decide +kernel
theorem d_Mp_isNameByte_36 : decode b_Mp_isNameByte 36 = .ok (.iload_n 0, 1) := by decide +kernel
theorem d_Mp_isNameByte_37 : decode b_Mp_isNameByte 37 = .ok (.bipush 45, 2) := by decide +kernel
theorem d_Mp_isNameByte_39 : decode b_Mp_isNameByte 39 = .ok (.if_icmp .ne 7, 3) := by decide +kernel
theorem d_Mp_isNameByte_42 : decode b_Mp_isNameByte 42 = .ok (.iconst 1, 1) := by decide +kernel
theorem d_Mp_isNameByte_43 : decode b_Mp_isNameByte 43 = .ok (.goto 4, 3) := by decide +kernel
theorem d_Mp_isNameByte_46 : decode b_Mp_isNameByte 46 = .ok (.iconst 0, 1) := by decide +kernel
theorem d_Mp_isNameByte_47 : decode b_Mp_isNameByte 47 = .ok (.ireturn, 1) := by decide +kernel
theorem d_Mp_small_0 : decode b_Mp_small 0 = .ok (.iload_n 0, 1) := by decide +kernel
theorem d_Mp_small_1 : decode b_Mp_small 1 = .ok (.bipush 65, 2) := by decide +kernel
theorem d_Mp_small_3 : decode b_Mp_small 3 = .ok (.if_icmp .lt 16, 3) := by decide +kernel
theorem d_Mp_small_6 : decode b_Mp_small 6 = .ok (.iload_n 0, 1) := by decide +kernel
theorem d_Mp_small_7 : decode b_Mp_small 7 = .ok (.bipush 90, 2) := by decide +kernel
theorem d_Mp_small_9 : decode b_Mp_small 9 = .ok (.if_icmp .gt 10, 3) := by decide +kernel
theorem d_Mp_small_12 : decode b_Mp_small 12 = .ok (.iload_n 0, 1) := by decide +kernel
theorem d_Mp_small_13 : decode b_Mp_small 13 = .ok (.bipush 32, 2) := by decide +kernel
theorem d_Mp_small_15 : decode b_Mp_small 15 = .ok (.iadd, 1) := by decide +kernel
theorem d_Mp_small_16 : decode b_Mp_small 16 = .ok (.goto 4, 3) := by decide +kernel
theorem d_Mp_small_19 : decode b_Mp_small 19 = .ok (.iload_n 0, 1) := by decide +kernel
theorem d_Mp_small_20 : decode b_Mp_small 20 = .ok (.ireturn, 1) := by decide +kernel
end
section
theorem d_Mo_init_0 : decode b_Mo_init 0 = .ok (.aload_n 0, 1) := by decide +kernel
theorem d_Mo_init_1 : decode b_Mo_init 1 = .ok (.invokespecial 1, 3) := by decide +kernel
theorem d_Mo_init_4 : decode b_Mo_init 4 = .ok (.aload_n 0, 1) := by decide +kernel
theorem d_Mo_init_5 : decode b_Mo_init 5 = .ok (.bipush 12, 2) := by decide +kernel
theorem d_Mo_init_7 : decode b_Mo_init 7 = .ok (.newarray .int, 2) := by decide +kernel
theorem d_Mo_init_9 : decode b_Mo_init 9 = .ok (.dup, 1) := by decide +kernel
theorem d_Mo_init_10 : decode b_Mo_init 10 = .ok (.iconst 0, 1) := by decide +kernel
theorem d_Mo_init_11 : decode b_Mo_init 11 = .ok (.bipush 99, 2) := by decide +kernel
theorem d_Mo_init_13 : decode b_Mo_init 13 = .ok (.iastore, 1) := by decide +kernel
theorem d_Mo_init_14 : decode b_Mo_init 14 = .ok (.dup, 1) := by decide +kernel
theorem d_Mo_init_15 : decode b_Mo_init 15 = .ok (.iconst 1, 1) := by decide +kernel
theorem d_Mo_init_16 : decode b_Mo_init 16 = .ok (.bipush 111, 2) := by decide +kernel
theorem d_Mo_init_18 : decode b_Mo_init 18 = .ok (.iastore, 1) := by decide +kernel
theorem d_Mo_init_19 : decode b_Mo_init 19 = .ok (.dup, 1) := by decide +kernel
theorem d_Mo_init_20 : decode b_Mo_init 20 = .ok (.iconst 2, 1) := by decide +kernel
theorem d_Mo_init_21 : decode b_Mo_init 21 = .ok (.bipush 110, 2) := by decide +kernel
theorem d_Mo_init_23 : decode b_Mo_init 23 = .ok (.iastore, 1) := by decide +kernel
theorem d_Mo_init_24 : decode b_Mo_init 24 = .ok (.dup, 1) := by decide +kernel
theorem d_Mo_init_25 : decode b_Mo_init 25 = .ok (.iconst 3, 1) := by decide +kernel
theorem d_Mo_init_26 : decode b_Mo_init 26 = .ok (.bipush 116, 2) := by decide +kernel
theorem d_Mo_init_28 : decode b_Mo_init 28 = .ok (.iastore, 1) := by decide +kernel
theorem d_Mo_init_29 : decode b_Mo_init 29 = .ok (.dup, 1) := by decide +kernel
theorem d_Mo_init_30 : decode b_Mo_init 30 = .ok (.iconst 4, 1) := by decide +kernel
theorem d_Mo_init_31 : decode b_Mo_init 31 = .ok (.bipush 101, 2) := by decide +kernel
theorem d_Mo_init_33 : decode b_Mo_init 33 = .ok (.iastore, 1) := by decide +kernel
theorem d_Mo_init_34 : decode b_Mo_init 34 = .ok (.dup, 1) := by decide +kernel
theorem d_Mo_init_35 : decode b_Mo_init 35 = .ok (.iconst 5, 1) := by decide +kernel
theorem d_Mo_init_36 : decode b_Mo_init 36 = .ok (.bipush 110, 2) := by decide +kernel
theorem d_Mo_init_38 : decode b_Mo_init 38 = .ok (.iastore, 1) := by decide +kernel
theorem d_Mo_init_39 : decode b_Mo_init 39 = .ok (.dup, 1) := by decide +kernel
theorem d_Mo_init_40 : decode b_Mo_init 40 = .ok (.bipush 6, 2) := by decide +kernel
theorem d_Mo_init_42 : decode b_Mo_init 42 = .ok (.bipush 116, 2) := by decide +kernel
theorem d_Mo_init_44 : decode b_Mo_init 44 = .ok (.iastore, 1) := by decide +kernel
theorem d_Mo_init_45 : decode b_Mo_init 45 = .ok (.dup, 1) := by decide +kernel
theorem d_Mo_init_46 : decode b_Mo_init 46 = .ok (.bipush 7, 2) := by decide +kernel
theorem d_Mo_init_48 : decode b_Mo_init 48 = .ok (.bipush 45, 2) := by decide +kernel
theorem d_Mo_init_50 : decode b_Mo_init 50 = .ok (.iastore, 1) := by decide +kernel
theorem d_Mo_init_51 : decode b_Mo_init 51 = .ok (.dup, 1) := by decide +kernel
theorem d_Mo_init_52 : decode b_Mo_init 52 = .ok (.bipush 8, 2) := by decide +kernel
theorem d_Mo_init_54 : decode b_Mo_init 54 = .ok (.bipush 116, 2) := by decide +kernel
theorem d_Mo_init_56 : decode b_Mo_init 56 = .ok (.iastore, 1) := by decide +kernel
theorem d_Mo_init_57 : decode b_Mo_init 57 = .ok (.dup, 1) := by decide +kernel
theorem d_Mo_init_58 : decode b_Mo_init 58 = .ok (.bipush 9, 2) := by decide +kernel
theorem d_Mo_init_60 : decode b_Mo_init 60 = .ok (.bipush 121, 2) := by decide +kernel
theorem d_Mo_init_62 : decode b_Mo_init 62 = .ok (.iastore, 1) := by decide +kernel
theorem d_Mo_init_63 : decode b_Mo_init 63 = .ok (.dup, 1) := by decide +kernel
theorem d_Mo_init_64 : decode b_Mo_init 64 = .ok (.bipush 10, 2) := by decide +kernel
theorem d_Mo_init_66 : decode b_Mo_init 66 = .ok (.bipush 112, 2) := by decide +kernel
theorem d_Mo_init_68 : decode b_Mo_init 68 = .ok (.iastore, 1) := by decide +kernel
theorem d_Mo_init_69 : decode b_Mo_init 69 = .ok (.dup, 1) := by decide +kernel
theorem d_Mo_init_70 : decode b_Mo_init 70 = .ok (.bipush 11, 2) := by decide +kernel
theorem d_Mo_init_72 : decode b_Mo_init 72 = .ok (.bipush 101, 2) := by decide +kernel
theorem d_Mo_init_74 : decode b_Mo_init 74 = .ok (.iastore, 1) := by decide +kernel
theorem d_Mo_init_75 : decode b_Mo_init 75 = .ok (.putfield 7, 3) := by decide +kernel
theorem d_Mo_init_78 : decode b_Mo_init 78 = .ok (.aload_n 0, 1) := by decide +kernel
theorem d_Mo_init_79 : decode b_Mo_init 79 = .ok (.bipush 25, 2) := by decide +kernel
theorem d_Mo_init_81 : decode b_Mo_init 81 = .ok (.newarray .int, 2) := by decide +kernel
theorem d_Mo_init_83 : decode b_Mo_init 83 = .ok (.dup, 1) := by decide +kernel
theorem d_Mo_init_84 : decode b_Mo_init 84 = .ok (.iconst 0, 1) := by decide +kernel
theorem d_Mo_init_85 : decode b_Mo_init 85 = .ok (.bipush 99, 2) := by decide +kernel
theorem d_Mo_init_87 : decode b_Mo_init 87 = .ok (.iastore, 1) := by decide +kernel
theorem d_Mo_init_88 : decode b_Mo_init 88 = .ok (.dup, 1) := by decide +kernel
theorem d_Mo_init_89 : decode b_Mo_init 89 = .ok (.iconst 1, 1) := by decide +kernel
theorem d_Mo_init_90 : decode b_Mo_init 90 = .ok (.bipush 111, 2) := by decide +kernel
theorem d_Mo_init_92 : decode b_Mo_init 92 = .ok (.iastore, 1) := by decide +kernel
theorem d_Mo_init_93 : decode b_Mo_init 93 = .ok (.dup, 1) := by decide +kernel
theorem d_Mo_init_94 : decode b_Mo_init 94 = .ok (.iconst 2, 1) := by decide +kernel
theorem d_Mo_init_95 : decode b_Mo_init 95 = .ok (.bipush 110, 2) := by decide +kernel
theorem d_Mo_init_97 : decode b_Mo_init 97 = .ok (.iastore, 1) := by decide +kernel
theorem d_Mo_init_98 : decode b_Mo_init 98 = .ok (.dup, 1) := by decide +kernel
theorem d_Mo_init_99 : decode b_Mo_init 99 = .ok (.iconst 3, 1) := by decide +kernel
theorem d_Mo_init_100 : decode b_Mo_init 100 = .ok (.bipush 116, 2) := by decide +kernel
theorem d_Mo_init_102 : decode b_Mo_init 102 = .ok (.iastore, 1) := by decide +kernel
theorem d_Mo_init_103 : decode b_Mo_init 103 = .ok (.dup, 1) := by decide +kernel
theorem d_Mo_init_104 : decode b_Mo_init 104 = .ok (.iconst 4, 1) := by decide +kernel
theorem d_Mo_init_105 : decode b_Mo_init 105 = .ok (.bipush 101, 2) := by decide +kernel
theorem d_Mo_init_107 : decode b_Mo_init 107 = .ok (.iastore, 1) := by decide +kernel
theorem d_Mo_init_108 : decode b_Mo_init 108 = .ok (.dup, 1) := by decide +kernel
theorem d_Mo_init_109 : decode b_Mo_init 109 = .ok (.iconst 5, 1) := by decide +kernel
theorem d_Mo_init_110 : decode b_Mo_init 110 = .ok (.bipush 110, 2) := by decide +kernel
theorem d_Mo_init_112 : decode b_Mo_init 112 = .ok (.iastore, 1) := by decide +kernel
theorem d_Mo_init_113 : decode b_Mo_init 113 = .ok (.dup, 1) := by decide +kernel
theorem d_Mo_init_114 : decode b_Mo_init 114 = .ok (.bipush 6, 2) := by decide +kernel
theorem d_Mo_init_116 : decode b_Mo_init 116 = .ok (.bipush 116, 2) := by decide +kernel
theorem d_Mo_init_118 : decode b_Mo_init 118 = .ok (.iastore, 1) := by decide +kernel
theorem d_Mo_init_119 : decode b_Mo_init 119 = .ok (.dup, 1) := by decide +kernel
theorem d_Mo_init_120 : decode b_Mo_init 120 = .ok (.bipush 7, 2) := by decide +kernel
theorem d_Mo_init_122 : decode b_Mo_init 122 = .ok (.bipush 45, 2) := by decide +kernel
theorem d_Mo_init_124 : decode b_Mo_init 124 = .ok (.iastore, 1) := by decide +kernel
theorem d_Mo_init_125 : decode b_Mo_init 125 = .ok (.dup, 1) := by decide +kernel
theorem d_Mo_init_126 : decode b_Mo_init 126 = .ok (.bipush 8, 2) := by decide +kernel
theorem d_Mo_init_128 : decode b_Mo_init 128 = .ok (.bipush 116, 2) := by decide +kernel
theorem d_Mo_init_130 : decode b_Mo_init 130 = .ok (.iastore, 1) := by decide +kernel
theorem d_Mo_init_131 : decode b_Mo_init 131 = .ok (.dup, 1) := by decide +kernel
theorem d_Mo_init_132 : decode b_Mo_init 132 = .ok (.bipush 9, 2) := by decide +kernel
theorem d_Mo_init_134 : decode b_Mo_init 134 = .ok (.bipush 114, 2) := by decide +kernel
theorem d_Mo_init_136 : decode b_Mo_init 136 = .ok (.iastore, 1) := by decide +kernel
theorem d_Mo_init_137 : decode b_Mo_init 137 = .ok (.dup, 1) := by decide +kernel
theorem d_Mo_init_138 : decode b_Mo_init 138 = .ok (.bipush 10, 2) := by decide +kernel
theorem d_Mo_init_140 : decode b_Mo_init 140 = .ok (.bipush 97, 2) := by decide +kernel
theorem d_Mo_init_142 : decode b_Mo_init 142 = .ok (.iastore, 1) := by decide +kernel
theorem d_Mo_init_143 : decode b_Mo_init 143 = .ok (.dup, 1) := by decide +kernel
theorem d_Mo_init_144 : decode b_Mo_init 144 = .ok (.bipush 11, 2) := by decide +kernel
theorem d_Mo_init_146 : decode b_Mo_init 146 = .ok (.bipush 110, 2) := by decide +kernel
theorem d_Mo_init_148 : decode b_Mo_init 148 = .ok (.iastore, 1) := by decide +kernel
theorem d_Mo_init_149 : decode b_Mo_init 149 = .ok (.dup, 1) := by decide +kernel
theorem d_Mo_init_150 : decode b_Mo_init 150 = .ok (.bipush 12, 2) := by decide +kernel
theorem d_Mo_init_152 : decode b_Mo_init 152 = .ok (.bipush 115, 2) := by decide +kernel
theorem d_Mo_init_154 : decode b_Mo_init 154 = .ok (.iastore, 1) := by decide +kernel
theorem d_Mo_init_155 : decode b_Mo_init 155 = .ok (.dup, 1) := by decide +kernel
theorem d_Mo_init_156 : decode b_Mo_init 156 = .ok (.bipush 13, 2) := by decide +kernel
theorem d_Mo_init_158 : decode b_Mo_init 158 = .ok (.bipush 102, 2) := by decide +kernel
theorem d_Mo_init_160 : decode b_Mo_init 160 = .ok (.iastore, 1) := by decide +kernel
theorem d_Mo_init_161 : decode b_Mo_init 161 = .ok (.dup, 1) := by decide +kernel
theorem d_Mo_init_162 : decode b_Mo_init 162 = .ok (.bipush 14, 2) := by decide +kernel
theorem d_Mo_init_164 : decode b_Mo_init 164 = .ok (.bipush 101, 2) := by decide +kernel
theorem d_Mo_init_166 : decode b_Mo_init 166 = .ok (.iastore, 1) := by decide +kernel
theorem d_Mo_init_167 : decode b_Mo_init 167 = .ok (.dup, 1) := by decide +kernel
theorem d_Mo_init_168 : decode b_Mo_init 168 = .ok (.bipush 15, 2) := by decide +kernel
theorem d_Mo_init_170 : decode b_Mo_init 170 = .ok (.bipush 114, 2) := by decide +kernel
theorem d_Mo_init_172 : decode b_Mo_init 172 = .ok (.iastore, 1) := by decide +kernel
theorem d_Mo_init_173 : decode b_Mo_init 173 = .ok (.dup, 1) := by decide +kernel
theorem d_Mo_init_174 : decode b_Mo_init 174 = .ok (.bipush 16, 2) := by decide +kernel
theorem d_Mo_init_176 : decode b_Mo_init 176 = .ok (.bipush 45, 2) := by decide +kernel
theorem d_Mo_init_178 : decode b_Mo_init 178 = .ok (.iastore, 1) := by decide +kernel
theorem d_Mo_init_179 : decode b_Mo_init 179 = .ok (.dup, 1) := by decide +kernel
theorem d_Mo_init_180 : decode b_Mo_init 180 = .ok (.bipush 17, 2) := by decide +kernel
theorem d_Mo_init_182 : decode b_Mo_init 182 = .ok (.bipush 101, 2) := by decide +kernel
theorem d_Mo_init_184 : decode b_Mo_init 184 = .ok (.iastore, 1) := by decide +kernel
theorem d_Mo_init_185 : decode b_Mo_init 185 = .ok (.dup, 1) := by decide +kernel
theorem d_Mo_init_186 : decode b_Mo_init 186 = .ok (.bipush 18, 2) := by decide +kernel
theorem d_Mo_init_188 : decode b_Mo_init 188 = .ok (.bipush 110, 2) := by decide +kernel
theorem d_Mo_init_190 : decode b_Mo_init 190 = .ok (.iastore, 1) := by decide +kernel
theorem d_Mo_init_191 : decode b_Mo_init 191 = .ok (.dup, 1) := by decide +kernel
theorem d_Mo_init_192 : decode b_Mo_init 192 = .ok (.bipush 19, 2) := by decide +kernel
theorem d_Mo_init_194 : decode b_Mo_init 194 = .ok (.bipush 99, 2) := by decide +kernel
theorem d_Mo_init_196 : decode b_Mo_init 196 = .ok (.iastore, 1) := by decide +kernel
theorem d_Mo_init_197 : decode b_Mo_init 197 = .ok (.dup, 1) := by decide +kernel
theorem d_Mo_init_198 : decode b_Mo_init 198 = .ok (.bipush 20, 2) := by decide +kernel
theorem d_Mo_init_200 : decode b_Mo_init 200 = .ok (.bipush 111, 2) := by decide +kernel
theorem d_Mo_init_202 : decode b_Mo_init 202 = .ok (.iastore, 1) := by decide +kernel
theorem d_Mo_init_203 : decode b_Mo_init 203 = .ok (.dup, 1) := by decide +kernel
theorem d_Mo_init_204 : decode b_Mo_init 204 = .ok (.bipush 21, 2) := by decide +kernel
theorem d_Mo_init_206 : decode b_Mo_init 206 = .ok (.bipush 100, 2) := by decide +kernel
theorem d_Mo_init_208 : decode b_Mo_init 208 = .ok (.iastore, 1) := by decide +kernel
theorem d_Mo_init_209 : decode b_Mo_init 209 = .ok (.dup, 1) := by decide +kernel
theorem d_Mo_init_210 : decode b_Mo_init 210 = .ok (.bipush 22, 2) := by decide +kernel
theorem d_Mo_init_212 : decode b_Mo_init 212 = .ok (.bipush 105, 2) := by decide +kernel
theorem d_Mo_init_214 : decode b_Mo_init 214 = .ok (.iastore, 1) := by decide +kernel
theorem d_Mo_init_215 : decode b_Mo_init 215 = .ok (.dup, 1) := by decide +kernel
theorem d_Mo_init_216 : decode b_Mo_init 216 = .ok (.bipush 23, 2) := by decide +kernel
theorem d_Mo_init_218 : decode b_Mo_init 218 = .ok (.bipush 110, 2) := by decide +kernel
theorem d_Mo_init_220 : decode b_Mo_init 220 = .ok (.iastore, 1) := by decide +kernel
theorem d_Mo_init_221 : decode b_Mo_init 221 = .ok (.dup, 1) := by decide +kernel
theorem d_Mo_init_222 : decode b_Mo_init 222 = .ok (.bipush 24, 2) := by decide +kernel
theorem d_Mo_init_224 : decode b_Mo_init 224 = .ok (.bipush 103, 2) := by decide +kernel
theorem d_Mo_init_226 : decode b_Mo_init 226 = .ok (.iastore, 1) := by decide +kernel
theorem d_Mo_init_227 : decode b_Mo_init 227 = .ok (.putfield 13, 3) := by decide +kernel
theorem d_Mo_init_230 : decode b_Mo_init 230 = .ok (.aload_n 0, 1) := by decide +kernel
theorem d_Mo_init_231 : decode b_Mo_init 231 = .ok (.bipush 19, 2) := by decide +kernel
theorem d_Mo_init_233 : decode b_Mo_init 233 = .ok (.newarray .int, 2) := by decide +kernel
theorem d_Mo_init_235 : decode b_Mo_init 235 = .ok (.dup, 1) := by decide +kernel
theorem d_Mo_init_236 : decode b_Mo_init 236 = .ok (.iconst 0, 1) := by decide +kernel
theorem d_Mo_init_237 : decode b_Mo_init 237 = .ok (.bipush 99, 2) := by decide +kernel
theorem d_Mo_init_239 : decode b_Mo_init 239 = .ok (.iastore, 1) := by decide +kernel
theorem d_Mo_init_240 : decode b_Mo_init 240 = .ok (.dup, 1) := by decide +kernel
theorem d_Mo_init_241 : decode b_Mo_init 241 = .ok (.iconst 1, 1) := by decide +kernel
theorem d_Mo_init_242 : decode b_Mo_init 242 = .ok (.bipush 111, 2) := by decide +kernel
theorem d_Mo_init_244 : decode b_Mo_init 244 = .ok (.iastore, 1) := by decide +kernel
theorem d_Mo_init_245 : decode b_Mo_init 245 = .ok (.dup, 1) := by decide +kernel
theorem d_Mo_init_246 : decode b_Mo_init 246 = .ok (.iconst 2, 1) := by decide +kernel
theorem d_Mo_init_247 : decode b_Mo_init 247 = .ok (.bipush 110, 2) := by decide +kernel
theorem d_Mo_init_249 : decode b_Mo_init 249 = .ok (.iastore, 1) := by decide +kernel
theorem d_Mo_init_250 : decode b_Mo_init 250 = .ok (.dup, 1) := by decide +kernel
theorem d_Mo_init_251 : decode b_Mo_init 251 = .ok (.iconst 3, 1) := by decide +kernel
theorem d_Mo_init_252 : decode b_Mo_init 252 = .ok (.bipush 116, 2) := by decide +kernel
theorem d_Mo_init_254 : decode b_Mo_init 254 = .ok (.iastore, 1) := by decide +kernel
theorem d_Mo_init_255 : decode b_Mo_init 255 = .ok (.dup, 1) := by decide +kernel
theorem d_Mo_init_256 : decode b_Mo_init 256 = .ok (.iconst 4, 1) := by decide +kernel
theorem d_Mo_init_257 : decode b_Mo_init 257 = .ok (.bipush 101, 2) := by decide +kernel
theorem d_Mo_init_259 : decode b_Mo_init 259 = .ok (.iastore, 1) := by decide +kernel
theorem d_Mo_init_260 : decode b_Mo_init 260 = .ok (.dup, 1) := by decide +kernel
theorem d_Mo_init_261 : decode b_Mo_init 261 = .ok (.iconst 5, 1) := by decide +kernel
theorem d_Mo_init_262 : decode b_Mo_init 262 = .ok (.bipush 110, 2) := by decide +kernel
theorem d_Mo_init_264 : decode b_Mo_init 264 = .ok (.iastore, 1) := by decide +kernel
theorem d_Mo_init_265 : decode b_Mo_init 265 = .ok (.dup, 1) := by decide +kernel
theorem d_Mo_init_266 : decode b_Mo_init 266 = .ok (.bipush 6, 2) := by decide +kernel
theorem d_Mo_init_268 : decode b_Mo_init 268 = .ok (.bipush 116, 2) := by decide +kernel
theorem d_Mo_init_270 : decode b_Mo_init 270 = .ok (.iastore, 1) := by decide +kernel
theorem d_Mo_init_271 : decode b_Mo_init 271 = .ok (.dup, 1) := by decide +kernel
theorem d_Mo_init_272 : decode b_Mo_init 272 = .ok (.bipush 7, 2) := by decide +kernel
theorem d_Mo_init_274 : decode b_Mo_init 274 = .ok (.bipush 45, 2) := by decide +kernel
theorem d_Mo_init_276 : decode b_Mo_init 276 = .ok (.iastore, 1) := by decide +kernel
theorem d_Mo_init_277 : decode b_Mo_init 277 = .ok (.dup, 1) := by decide +kernel
theorem d_Mo_init_278 : decode b_Mo_init 278 = .ok (.bipush 8, 2) := by decide +kernel
theorem d_Mo_init_280 : decode b_Mo_init 280 = .ok (.bipush 100, 2) := by decide +kernel
theorem d_Mo_init_282 : decode b_Mo_init 282 = .ok (.iastore, 1) := by decide +kernel
theorem d_Mo_init_283 : decode b_Mo_init 283 = .ok (.dup, 1) := by decide +kernel
theorem d_Mo_init_284 : decode b_Mo_init 284 = .ok (.bipush 9, 2) := by decide +kernel
theorem d_Mo_init_286 : decode b_Mo_init 286 = .ok (.bipush 105, 2) := by decide +kernel
theorem d_Mo_init_288 : decode b_Mo_init 288 = .ok (.iastore, 1) := by decide +kernel
theorem d_Mo_init_289 : decode b_Mo_init 289 = .ok (.dup, 1) := by decide +kernel
theorem d_Mo_init_290 : decode b_Mo_init 290 = .ok (.bipush 10, 2) := by decide +kernel
theorem d_Mo_init_292 : decode b_Mo_init 292 = .ok (.bipush 115, 2) := by decide +kernel
theorem d_Mo_init_294 : decode b_Mo_init 294 = .ok (.iastore, 1) := by decide +kernel
theorem d_Mo_init_295 : decode b_Mo_init 295 = .ok (.dup, 1) := by decide +kernel
theorem d_Mo_init_296 : decode b_Mo_init 296 = .ok (.bipush 11, 2) := by decide +kernel
theorem d_Mo_init_298 : decode b_Mo_init 298 = .ok (.bipush 112, 2) := by decide +kernel
theorem d_Mo_init_300 : decode b_Mo_init 300 = .ok (.iastore, 1) := by decide +kernel
theorem d_Mo_init_301 : decode b_Mo_init 301 = .ok (.dup, 1) := by decide +kernel
theorem d_Mo_init_302 : decode b_Mo_init 302 = .ok (.bipush 12, 2) := by decide +kernel
theorem d_Mo_init_304 : decode b_Mo_init 304 = .ok (.bipush 111, 2) := by decide +kernel
theorem d_Mo_init_306 : decode b_Mo_init 306 = .ok (.iastore, 1) := by decide +kernel
theorem d_Mo_init_307 : decode b_Mo_init 307 = .ok (.dup, 1) := by decide +kernel
theorem d_Mo_init_308 : decode b_Mo_init 308 = .ok (.bipush 13, 2) := by decide +kernel
theorem d_Mo_init_310 : decode b_Mo_init 310 = .ok (.bipush 115, 2) := by decide +kernel
theorem d_Mo_init_312 : decode b_Mo_init 312 = .ok (.iastore, 1) := by decide +kernel
theorem d_Mo_init_313 : decode b_Mo_init 313 = .ok (.dup, 1) := by decide +kernel
theorem d_Mo_init_314 : decode b_Mo_init 314 = .ok (.bipush 14, 2) := by decide +kernel
theorem d_Mo_init_316 : decode b_Mo_init 316 = .ok (.bipush 105, 2) := by decide +kernel
theorem d_Mo_init_318 : decode b_Mo_init 318 = .ok (.iastore, 1) := by decide +kernel
theorem d_Mo_init_319 : decode b_Mo_init 319 = .ok (.dup, 1) := by decide +kernel
theorem d_Mo_init_320 : decode b_Mo_init 320 = .ok (.bipush 15, 2) := by decide +kernel
theorem d_Mo_init_322 : decode b_Mo_init 322 = .ok (.bipush 116, 2) := by decide +kernel
theorem d_Mo_init_324 : decode b_Mo_init 324 = .ok (.iastore, 1) := by decide +kernel
theorem d_Mo_init_325 : decode b_Mo_init 325 = .ok (.dup, 1) := by decide +kernel
theorem d_Mo_init_326 : decode b_Mo_init 326 = .ok (.bipush 16, 2) := by decide +kernel
theorem d_Mo_init_328 : decode b_Mo_init 328 = .ok (.bipush 105, 2) := by decide +kernel
theorem d_Mo_init_330 : decode b_Mo_init 330 = .ok (.iastore, 1) := by decide +kernel
theorem d_Mo_init_331 : decode b_Mo_init 331 = .ok (.dup, 1) := by decide +kernel
end
section
theorem d_Mo_init_332 : decode b_Mo_init 332 = .ok (.bipush 17, 2) := by decide +kernel
theorem d_Mo_init_334 : decode b_Mo_init 334 = .ok (.bipush 111, 2) := by decide +kernel
theorem d_Mo_init_336 : decode b_Mo_init 336 = .ok (.iastore, 1) := by decide +kernel
theorem d_Mo_init_337 : decode b_Mo_init 337 = .ok (.dup, 1) := by decide +kernel
theorem d_Mo_init_338 : decode b_Mo_init 338 = .ok (.bipush 18, 2) := by decide +kernel
theorem d_Mo_init_340 : decode b_Mo_init 340 = .ok (.bipush 110, 2) := by decide +kernel
theorem d_Mo_init_342 : decode b_Mo_init 342 = .ok (.iastore, 1) := by decide +kernel
theorem d_Mo_init_343 : decode b_Mo_init 343 = .ok (.putfield 16, 3) := by decide +kernel
theorem d_Mo_init_346 : decode b_Mo_init 346 = .ok (.aload_n 0, 1) := by decide +kernel
theorem d_Mo_init_347 : decode b_Mo_init 347 = .ok (.bipush 8, 2) := by decide +kernel
theorem d_Mo_init_349 : decode b_Mo_init 349 = .ok (.newarray .int, 2) := by decide +kernel
theorem d_Mo_init_351 : decode b_Mo_init 351 = .ok (.dup, 1) := by decide +kernel
theorem d_Mo_init_352 : decode b_Mo_init 352 = .ok (.iconst 0, 1) := by decide +kernel
theorem d_Mo_init_353 : decode b_Mo_init 353 = .ok (.bipush 98, 2) := by decide +kernel
theorem d_Mo_init_355 : decode b_Mo_init 355 = .ok (.iastore, 1) := by decide +kernel
theorem d_Mo_init_356 : decode b_Mo_init 356 = .ok (.dup, 1) := by decide +kernel
theorem d_Mo_init_357 : decode b_Mo_init 357 = .ok (.iconst 1, 1) := by decide +kernel
theorem d_Mo_init_358 : decode b_Mo_init 358 = .ok (.bipush 111, 2) := by decide +kernel
theorem d_Mo_init_360 : decode b_Mo_init 360 = .ok (.iastore, 1) := by decide +kernel
theorem d_Mo_init_361 : decode b_Mo_init 361 = .ok (.dup, 1) := by decide +kernel
theorem d_Mo_init_362 : decode b_Mo_init 362 = .ok (.iconst 2, 1) := by decide +kernel
theorem d_Mo_init_363 : decode b_Mo_init 363 = .ok (.bipush 117, 2) := by decide +kernel
theorem d_Mo_init_365 : decode b_Mo_init 365 = .ok (.iastore, 1) := by decide +kernel
theorem d_Mo_init_366 : decode b_Mo_init 366 = .ok (.dup, 1) := by decide +kernel
theorem d_Mo_init_367 : decode b_Mo_init 367 = .ok (.iconst 3, 1) := by decide +kernel
theorem d_Mo_init_368 : decode b_Mo_init 368 = .ok (.bipush 110, 2) := by decide +kernel
theorem d_Mo_init_370 : decode b_Mo_init 370 = .ok (.iastore, 1) := by decide +kernel
theorem d_Mo_init_371 : decode b_Mo_init 371 = .ok (.dup, 1) := by decide +kernel
theorem d_Mo_init_372 : decode b_Mo_init 372 = .ok (.iconst 4, 1) := by decide +kernel
theorem d_Mo_init_373 : decode b_Mo_init 373 = .ok (.bipush 100, 2) := by decide +kernel
theorem d_Mo_init_375 : decode b_Mo_init 375 = .ok (.iastore, 1) := by decide +kernel
theorem d_Mo_init_376 : decode b_Mo_init 376 = .ok (.dup, 1) := by decide +kernel
theorem d_Mo_init_377 : decode b_Mo_init 377 = .ok (.iconst 5, 1) := by decide +kernel
theorem d_Mo_init_378 : decode b_Mo_init 378 = .ok (.bipush 97, 2) := by decide +kernel
theorem d_Mo_init_380 : decode b_Mo_init 380 = .ok (.iastore, 1) := by decide +kernel
theorem d_Mo_init_381 : decode b_Mo_init 381 = .ok (.dup, 1) := by decide +kernel
theorem d_Mo_init_382 : decode b_Mo_init 382 = .ok (.bipush 6, 2) := by decide +kernel
theorem d_Mo_init_384 : decode b_Mo_init 384 = .ok (.bipush 114, 2) := by decide +kernel
theorem d_Mo_init_386 : decode b_Mo_init 386 = .ok (.iastore, 1) := by decide +kernel
theorem d_Mo_init_387 : decode b_Mo_init 387 = .ok (.dup, 1) := by decide +kernel
theorem d_Mo_init_388 : decode b_Mo_init 388 = .ok (.bipush 7, 2) := by decide +kernel
theorem d_Mo_init_390 : decode b_Mo_init 390 = .ok (.bipush 121, 2) := by decide +kernel
theorem d_Mo_init_392 : decode b_Mo_init 392 = .ok (.iastore, 1) := by decide +kernel
theorem d_Mo_init_393 : decode b_Mo_init 393 = .ok (.putfield 19, 3) := by decide +kernel
theorem d_Mo_init_396 : decode b_Mo_init 396 = .ok (.aload_n 0, 1) := by decide +kernel
theorem d_Mo_init_397 : decode b_Mo_init 397 = .ok (.bipush 8, 2) := by decide +kernel
theorem d_Mo_init_399 : decode b_Mo_init 399 = .ok (.newarray .int, 2) := by decide +kernel
theorem d_Mo_init_401 : decode b_Mo_init 401 = .ok (.dup, 1) := by decide +kernel
theorem d_Mo_init_402 : decode b_Mo_init 402 = .ok (.iconst 0, 1) := by decide +kernel
theorem d_Mo_init_403 : decode b_Mo_init 403 = .ok (.bipush 102, 2) := by decide +kernel
theorem d_Mo_init_405 : decode b_Mo_init 405 = .ok (.iastore, 1) := by decide +kernel
theorem d_Mo_init_406 : decode b_Mo_init 406 = .ok (.dup, 1) := by decide +kernel
theorem d_Mo_init_407 : decode b_Mo_init 407 = .ok (.iconst 1, 1) := by decide +kernel
theorem d_Mo_init_408 : decode b_Mo_init 408 = .ok (.bipush 105, 2) := by decide +kernel
theorem d_Mo_init_410 : decode b_Mo_init 410 = .ok (.iastore, 1) := by decide +kernel
theorem d_Mo_init_411 : decode b_Mo_init 411 = .ok (.dup, 1) := by decide +kernel
theorem d_Mo_init_412 : decode b_Mo_init 412 = .ok (.iconst 2, 1) := by decide +kernel
theorem d_Mo_init_413 : decode b_Mo_init 413 = .ok (.bipush 108, 2) := by decide +kernel
theorem d_Mo_init_415 : decode b_Mo_init 415 = .ok (.iastore, 1) := by decide +kernel
theorem d_Mo_init_416 : decode b_Mo_init 416 = .ok (.dup, 1) := by decide +kernel
theorem d_Mo_init_417 : decode b_Mo_init 417 = .ok (.iconst 3, 1) := by decide +kernel
theorem d_Mo_init_418 : decode b_Mo_init 418 = .ok (.bipush 101, 2) := by decide +kernel
theorem d_Mo_init_420 : decode b_Mo_init 420 = .ok (.iastore, 1) := by decide +kernel
theorem d_Mo_init_421 : decode b_Mo_init 421 = .ok (.dup, 1) := by decide +kernel
theorem d_Mo_init_422 : decode b_Mo_init 422 = .ok (.iconst 4, 1) := by decide +kernel
theorem d_Mo_init_423 : decode b_Mo_init 423 = .ok (.bipush 110, 2) := by decide +kernel
theorem d_Mo_init_425 : decode b_Mo_init 425 = .ok (.iastore, 1) := by decide +kernel
theorem d_Mo_init_426 : decode b_Mo_init 426 = .ok (.dup, 1) := by decide +kernel
theorem d_Mo_init_427 : decode b_Mo_init 427 = .ok (.iconst 5, 1) := by decide +kernel
theorem d_Mo_init_428 : decode b_Mo_init 428 = .ok (.bipush 97, 2) := by decide +kernel
theorem d_Mo_init_430 : decode b_Mo_init 430 = .ok (.iastore, 1) := by decide +kernel
theorem d_Mo_init_431 : decode b_Mo_init 431 = .ok (.dup, 1) := by decide +kernel
theorem d_Mo_init_432 : decode b_Mo_init 432 = .ok (.bipush 6, 2) := by decide +kernel
theorem d_Mo_init_434 : decode b_Mo_init 434 = .ok (.bipush 109, 2) := by decide +kernel
theorem d_Mo_init_436 : decode b_Mo_init 436 = .ok (.iastore, 1) := by decide +kernel
theorem d_Mo_init_437 : decode b_Mo_init 437 = .ok (.dup, 1) := by decide +kernel
theorem d_Mo_init_438 : decode b_Mo_init 438 = .ok (.bipush 7, 2) := by decide +kernel
theorem d_Mo_init_440 : decode b_Mo_init 440 = .ok (.bipush 101, 2) := by decide +kernel
theorem d_Mo_init_442 : decode b_Mo_init 442 = .ok (.iastore, 1) := by decide +kernel
theorem d_Mo_init_443 : decode b_Mo_init 443 = .ok (.putfield 22, 3) := by decide +kernel
theorem d_Mo_init_446 : decode b_Mo_init 446 = .ok (.aload_n 0, 1) := by decide +kernel
theorem d_Mo_init_447 : decode b_Mo_init 447 = .ok (.iconst 4, 1) := by decide +kernel
theorem d_Mo_init_448 : decode b_Mo_init 448 = .ok (.newarray .int, 2) := by decide +kernel
theorem d_Mo_init_450 : decode b_Mo_init 450 = .ok (.dup, 1) := by decide +kernel
theorem d_Mo_init_451 : decode b_Mo_init 451 = .ok (.iconst 0, 1) := by decide +kernel
theorem d_Mo_init_452 : decode b_Mo_init 452 = .ok (.bipush 110, 2) := by decide +kernel
theorem d_Mo_init_454 : decode b_Mo_init 454 = .ok (.iastore, 1) := by decide +kernel
theorem d_Mo_init_455 : decode b_Mo_init 455 = .ok (.dup, 1) := by decide +kernel
theorem d_Mo_init_456 : decode b_Mo_init 456 = .ok (.iconst 1, 1) := by decide +kernel
theorem d_Mo_init_457 : decode b_Mo_init 457 = .ok (.bipush 97, 2) := by decide +kernel
theorem d_Mo_init_459 : decode b_Mo_init 459 = .ok (.iastore, 1) := by decide +kernel
theorem d_Mo_init_460 : decode b_Mo_init 460 = .ok (.dup, 1) := by decide +kernel
theorem d_Mo_init_461 : decode b_Mo_init 461 = .ok (.iconst 2, 1) := by decide +kernel
theorem d_Mo_init_462 : decode b_Mo_init 462 = .ok (.bipush 109, 2) := by decide +kernel
theorem d_Mo_init_464 : decode b_Mo_init 464 = .ok (.iastore, 1) := by decide +kernel
theorem d_Mo_init_465 : decode b_Mo_init 465 = .ok (.dup, 1) := by decide +kernel
theorem d_Mo_init_466 : decode b_Mo_init 466 = .ok (.iconst 3, 1) := by decide +kernel
theorem d_Mo_init_467 : decode b_Mo_init 467 = .ok (.bipush 101, 2) := by decide +kernel
theorem d_Mo_init_469 : decode b_Mo_init 469 = .ok (.iastore, 1) := by decide +kernel
theorem d_Mo_init_470 : decode b_Mo_init 470 = .ok (.putfield 25, 3) := by decide +kernel
theorem d_Mo_init_473 : decode b_Mo_init 473 = .ok (.aload_n 0, 1) := by decide +kernel
theorem d_Mo_init_474 : decode b_Mo_init 474 = .ok (.bipush 10, 2) := by decide +kernel
theorem d_Mo_init_476 : decode b_Mo_init 476 = .ok (.newarray .int, 2) := by decide +kernel
theorem d_Mo_init_478 : decode b_Mo_init 478 = .ok (.dup, 1) := by decide +kernel
theorem d_Mo_init_479 : decode b_Mo_init 479 = .ok (.iconst 0, 1) := by decide +kernel
theorem d_Mo_init_480 : decode b_Mo_init 480 = .ok (.bipush 116, 2) := by decide +kernel
theorem d_Mo_init_482 : decode b_Mo_init 482 = .ok (.iastore, 1) := by decide +kernel
theorem d_Mo_init_483 : decode b_Mo_init 483 = .ok (.dup, 1) := by decide +kernel
theorem d_Mo_init_484 : decode b_Mo_init 484 = .ok (.iconst 1, 1) := by decide +kernel
theorem d_Mo_init_485 : decode b_Mo_init 485 = .ok (.bipush 101, 2) := by decide +kernel
theorem d_Mo_init_487 : decode b_Mo_init 487 = .ok (.iastore, 1) := by decide +kernel
theorem d_Mo_init_488 : decode b_Mo_init 488 = .ok (.dup, 1) := by decide +kernel
theorem d_Mo_init_489 : decode b_Mo_init 489 = .ok (.iconst 2, 1) := by decide +kernel
theorem d_Mo_init_490 : decode b_Mo_init 490 = .ok (.bipush 120, 2) := by decide +kernel
theorem d_Mo_init_492 : decode b_Mo_init 492 = .ok (.iastore, 1) := by decide +kernel
theorem d_Mo_init_493 : decode b_Mo_init 493 = .ok (.dup, 1) := by decide +kernel
theorem d_Mo_init_494 : decode b_Mo_init 494 = .ok (.iconst 3, 1) := by decide +kernel
theorem d_Mo_init_495 : decode b_Mo_init 495 = .ok (.bipush 116, 2) := by decide +kernel
theorem d_Mo_init_497 : decode b_Mo_init 497 = .ok (.iastore, 1) := by decide +kernel
theorem d_Mo_init_498 : decode b_Mo_init 498 = .ok (.dup, 1) := by decide +kernel
theorem d_Mo_init_499 : decode b_Mo_init 499 = .ok (.iconst 4, 1) := by decide +kernel
theorem d_Mo_init_500 : decode b_Mo_init 500 = .ok (.bipush 47, 2) := by decide +kernel
theorem d_Mo_init_502 : decode b_Mo_init 502 = .ok (.iastore, 1) := by decide +kernel
theorem d_Mo_init_503 : decode b_Mo_init 503 = .ok (.dup, 1) := by decide +kernel
theorem d_Mo_init_504 : decode b_Mo_init 504 = .ok (.iconst 5, 1) := by decide +kernel
theorem d_Mo_init_505 : decode b_Mo_init 505 = .ok (.bipush 112, 2) := by decide +kernel
theorem d_Mo_init_507 : decode b_Mo_init 507 = .ok (.iastore, 1) := by decide +kernel
theorem d_Mo_init_508 : decode b_Mo_init 508 = .ok (.dup, 1) := by decide +kernel
theorem d_Mo_init_509 : decode b_Mo_init 509 = .ok (.bipush 6, 2) := by decide +kernel
theorem d_Mo_init_511 : decode b_Mo_init 511 = .ok (.bipush 108, 2) := by decide +kernel
theorem d_Mo_init_513 : decode b_Mo_init 513 = .ok (.iastore, 1) := by decide +kernel
theorem d_Mo_init_514 : decode b_Mo_init 514 = .ok (.dup, 1) := by decide +kernel
theorem d_Mo_init_515 : decode b_Mo_init 515 = .ok (.bipush 7, 2) := by decide +kernel
theorem d_Mo_init_517 : decode b_Mo_init 517 = .ok (.bipush 97, 2) := by decide +kernel
theorem d_Mo_init_519 : decode b_Mo_init 519 = .ok (.iastore, 1) := by decide +kernel
theorem d_Mo_init_520 : decode b_Mo_init 520 = .ok (.dup, 1) := by decide +kernel
theorem d_Mo_init_521 : decode b_Mo_init 521 = .ok (.bipush 8, 2) := by decide +kernel
theorem d_Mo_init_523 : decode b_Mo_init 523 = .ok (.bipush 105, 2) := by decide +kernel
theorem d_Mo_init_525 : decode b_Mo_init 525 = .ok (.iastore, 1) := by decide +kernel
theorem d_Mo_init_526 : decode b_Mo_init 526 = .ok (.dup, 1) := by decide +kernel
theorem d_Mo_init_527 : decode b_Mo_init 527 = .ok (.bipush 9, 2) := by decide +kernel
theorem d_Mo_init_529 : decode b_Mo_init 529 = .ok (.bipush 110, 2) := by decide +kernel
theorem d_Mo_init_531 : decode b_Mo_init 531 = .ok (.iastore, 1) := by decide +kernel
theorem d_Mo_init_532 : decode b_Mo_init 532 = .ok (.putfield 28, 3) := by decide +kernel
theorem d_Mo_init_535 : decode b_Mo_init 535 = .ok (.aload_n 0, 1) := by decide +kernel
theorem d_Mo_init_536 : decode b_Mo_init 536 = .ok (.bipush 9, 2) := by decide +kernel
theorem d_Mo_init_538 : decode b_Mo_init 538 = .ok (.newarray .int, 2) := by decide +kernel
theorem d_Mo_init_540 : decode b_Mo_init 540 = .ok (.dup, 1) := by decide +kernel
theorem d_Mo_init_541 : decode b_Mo_init 541 = .ok (.iconst 0, 1) := by decide +kernel
theorem d_Mo_init_542 : decode b_Mo_init 542 = .ok (.bipush 116, 2) := by decide +kernel
theorem d_Mo_init_544 : decode b_Mo_init 544 = .ok (.iastore, 1) := by decide +kernel
theorem d_Mo_init_545 : decode b_Mo_init 545 = .ok (.dup, 1) := by decide +kernel
theorem d_Mo_init_546 : decode b_Mo_init 546 = .ok (.iconst 1, 1) := by decide +kernel
theorem d_Mo_init_547 : decode b_Mo_init 547 = .ok (.bipush 101, 2) := by decide +kernel
theorem d_Mo_init_549 : decode b_Mo_init 549 = .ok (.iastore, 1) := by decide +kernel
theorem d_Mo_init_550 : decode b_Mo_init 550 = .ok (.dup, 1) := by decide +kernel
theorem d_Mo_init_551 : decode b_Mo_init 551 = .ok (.iconst 2, 1) := by decide +kernel
theorem d_Mo_init_552 : decode b_Mo_init 552 = .ok (.bipush 120, 2) := by decide +kernel
theorem d_Mo_init_554 : decode b_Mo_init 554 = .ok (.iastore, 1) := by decide +kernel
theorem d_Mo_init_555 : decode b_Mo_init 555 = .ok (.dup, 1) := by decide +kernel
theorem d_Mo_init_556 : decode b_Mo_init 556 = .ok (.iconst 3, 1) := by decide +kernel
theorem d_Mo_init_557 : decode b_Mo_init 557 = .ok (.bipush 116, 2) := by decide +kernel
theorem d_Mo_init_559 : decode b_Mo_init 559 = .ok (.iastore, 1) := by decide +kernel
theorem d_Mo_init_560 : decode b_Mo_init 560 = .ok (.dup, 1) := by decide +kernel
theorem d_Mo_init_561 : decode b_Mo_init 561 = .ok (.iconst 4, 1) := by decide +kernel
theorem d_Mo_init_562 : decode b_Mo_init 562 = .ok (.bipush 47, 2) := by decide +kernel
theorem d_Mo_init_564 : decode b_Mo_init 564 = .ok (.iastore, 1) := by decide +kernel
theorem d_Mo_init_565 : decode b_Mo_init 565 = .ok (.dup, 1) := by decide +kernel
theorem d_Mo_init_566 : decode b_Mo_init 566 = .ok (.iconst 5, 1) := by decide +kernel
theorem d_Mo_init_567 : decode b_Mo_init 567 = .ok (.bipush 104, 2) := by decide +kernel
theorem d_Mo_init_569 : decode b_Mo_init 569 = .ok (.iastore, 1) := by decide +kernel
theorem d_Mo_init_570 : decode b_Mo_init 570 = .ok (.dup, 1) := by decide +kernel
theorem d_Mo_init_571 : decode b_Mo_init 571 = .ok (.bipush 6, 2) := by decide +kernel
theorem d_Mo_init_573 : decode b_Mo_init 573 = .ok (.bipush 116, 2) := by decide +kernel
theorem d_Mo_init_575 : decode b_Mo_init 575 = .ok (.iastore, 1) := by decide +kernel
theorem d_Mo_init_576 : decode b_Mo_init 576 = .ok (.dup, 1) := by decide +kernel
theorem d_Mo_init_577 : decode b_Mo_init 577 = .ok (.bipush 7, 2) := by decide +kernel
theorem d_Mo_init_579 : decode b_Mo_init 579 = .ok (.bipush 109, 2) := by decide +kernel
theorem d_Mo_init_581 : decode b_Mo_init 581 = .ok (.iastore, 1) := by decide +kernel
theorem d_Mo_init_582 : decode b_Mo_init 582 = .ok (.dup, 1) := by decide +kernel
theorem d_Mo_init_583 : decode b_Mo_init 583 = .ok (.bipush 8, 2) := by decide +kernel
theorem d_Mo_init_585 : decode b_Mo_init 585 = .ok (.bipush 108, 2) := by decide +kernel
theorem d_Mo_init_587 : decode b_Mo_init 587 = .ok (.iastore, 1) := by decide +kernel
theorem d_Mo_init_588 : decode b_Mo_init 588 = .ok (.putfield 31, 3) := by decide +kernel
theorem d_Mo_init_591 : decode b_Mo_init 591 = .ok (.aload_n 0, 1) := by decide +kernel
theorem d_Mo_init_592 : decode b_Mo_init 592 = .ok (.iconst 5, 1) := by decide +kernel
theorem d_Mo_init_593 : decode b_Mo_init 593 = .ok (.newarray .int, 2) := by decide +kernel
theorem d_Mo_init_595 : decode b_Mo_init 595 = .ok (.dup, 1) := by decide +kernel
theorem d_Mo_init_596 : decode b_Mo_init 596 = .ok (.iconst 0, 1) := by decide +kernel
theorem d_Mo_init_597 : decode b_Mo_init 597 = .ok (.bipush 116, 2) := by decide +kernel
theorem d_Mo_init_599 : decode b_Mo_init 599 = .ok (.iastore, 1) := by decide +kernel
theorem d_Mo_init_600 : decode b_Mo_init 600 = .ok (.dup, 1) := by decide +kernel
theorem d_Mo_init_601 : decode b_Mo_init 601 = .ok (.iconst 1, 1) := by decide +kernel
theorem d_Mo_init_602 : decode b_Mo_init 602 = .ok (.bipush 101, 2) := by decide +kernel
theorem d_Mo_init_604 : decode b_Mo_init 604 = .ok (.iastore, 1) := by decide +kernel
theorem d_Mo_init_605 : decode b_Mo_init 605 = .ok (.dup, 1) := by decide +kernel
theorem d_Mo_init_606 : decode b_Mo_init 606 = .ok (.iconst 2, 1) := by decide +kernel
theorem d_Mo_init_607 : decode b_Mo_init 607 = .ok (.bipush 120, 2) := by decide +kernel
theorem d_Mo_init_609 : decode b_Mo_init 609 = .ok (.iastore, 1) := by decide +kernel
theorem d_Mo_init_610 : decode b_Mo_init 610 = .ok (.dup, 1) := by decide +kernel
theorem d_Mo_init_611 : decode b_Mo_init 611 = .ok (.iconst 3, 1) := by decide +kernel
theorem d_Mo_init_612 : decode b_Mo_init 612 = .ok (.bipush 116, 2) := by decide +kernel
theorem d_Mo_init_614 : decode b_Mo_init 614 = .ok (.iastore, 1) := by decide +kernel
theorem d_Mo_init_615 : decode b_Mo_init 615 = .ok (.dup, 1) := by decide +kernel
theorem d_Mo_init_616 : decode b_Mo_init 616 = .ok (.iconst 4, 1) := by decide +kernel
theorem d_Mo_init_617 : decode b_Mo_init 617 = .ok (.bipush 47, 2) := by decide +kernel
theorem d_Mo_init_619 : decode b_Mo_init 619 = .ok (.iastore, 1) := by decide +kernel
theorem d_Mo_init_620 : decode b_Mo_init 620 = .ok (.putfield 34, 3) := by decide +kernel
theorem d_Mo_init_623 : decode b_Mo_init 623 = .ok (.aload_n 0, 1) := by decide +kernel
theorem d_Mo_init_624 : decode b_Mo_init 624 = .ok (.bipush 10, 2) := by decide +kernel
theorem d_Mo_init_626 : decode b_Mo_init 626 = .ok (.newarray .int, 2) := by decide +kernel
theorem d_Mo_init_628 : decode b_Mo_init 628 = .ok (.dup, 1) := by decide +kernel
theorem d_Mo_init_629 : decode b_Mo_init 629 = .ok (.iconst 0, 1) := by decide +kernel
theorem d_Mo_init_630 : decode b_Mo_init 630 = .ok (.bipush 109, 2) := by decide +kernel
theorem d_Mo_init_632 : decode b_Mo_init 632 = .ok (.iastore, 1) := by decide +kernel
theorem d_Mo_init_633 : decode b_Mo_init 633 = .ok (.dup, 1) := by decide +kernel
theorem d_Mo_init_634 : decode b_Mo_init 634 = .ok (.iconst 1, 1) := by decide +kernel
theorem d_Mo_init_635 : decode b_Mo_init 635 = .ok (.bipush 117, 2) := by decide +kernel
theorem d_Mo_init_637 : decode b_Mo_init 637 = .ok (.iastore, 1) := by decide +kernel
theorem d_Mo_init_638 : decode b_Mo_init 638 = .ok (.dup, 1) := by decide +kernel
theorem d_Mo_init_639 : decode b_Mo_init 639 = .ok (.iconst 2, 1) := by decide +kernel
theorem d_Mo_init_640 : decode b_Mo_init 640 = .ok (.bipush 108, 2) := by decide +kernel
theorem d_Mo_init_642 : decode b_Mo_init 642 = .ok (.iastore, 1) := by decide +kernel
theorem d_Mo_init_643 : decode b_Mo_init 643 = .ok (.dup, 1) := by decide +kernel
theorem d_Mo_init_644 : decode b_Mo_init 644 = .ok (.iconst 3, 1) := by decide +kernel
theorem d_Mo_init_645 : decode b_Mo_init 645 = .ok (.bipush 116, 2) := by decide +kernel
theorem d_Mo_init_647 : decode b_Mo_init 647 = .ok (.iastore, 1) := by decide +kernel
theorem d_Mo_init_648 : decode b_Mo_init 648 = .ok (.dup, 1) := by decide +kernel
theorem d_Mo_init_649 : decode b_Mo_init 649 = .ok (.iconst 4, 1) := by decide +kernel
theorem d_Mo_init_650 : decode b_Mo_init 650 = .ok (.bipush 105, 2) := by decide +kernel
end
section
theorem d_Mo_init_652 : decode b_Mo_init 652 = .ok (.iastore, 1) := by decide +kernel
theorem d_Mo_init_653 : decode b_Mo_init 653 = .ok (.dup, 1) := by decide +kernel
theorem d_Mo_init_654 : decode b_Mo_init 654 = .ok (.iconst 5, 1) := by decide +kernel
theorem d_Mo_init_655 : decode b_Mo_init 655 = .ok (.bipush 112, 2) := by decide +kernel
theorem d_Mo_init_657 : decode b_Mo_init 657 = .ok (.iastore, 1) := by decide +kernel
theorem d_Mo_init_658 : decode b_Mo_init 658 = .ok (.dup, 1) := by decide +kernel
theorem d_Mo_init_659 : decode b_Mo_init 659 = .ok (.bipush 6, 2) := by decide +kernel
theorem d_Mo_init_661 : decode b_Mo_init 661 = .ok (.bipush 97, 2) := by decide +kernel
theorem d_Mo_init_663 : decode b_Mo_init 663 = .ok (.iastore, 1) := by decide +kernel
theorem d_Mo_init_664 : decode b_Mo_init 664 = .ok (.dup, 1) := by decide +kernel
theorem d_Mo_init_665 : decode b_Mo_init 665 = .ok (.bipush 7, 2) := by decide +kernel
theorem d_Mo_init_667 : decode b_Mo_init 667 = .ok (.bipush 114, 2) := by decide +kernel
theorem d_Mo_init_669 : decode b_Mo_init 669 = .ok (.iastore, 1) := by decide +kernel
theorem d_Mo_init_670 : decode b_Mo_init 670 = .ok (.dup, 1) := by decide +kernel
theorem d_Mo_init_671 : decode b_Mo_init 671 = .ok (.bipush 8, 2) := by decide +kernel
theorem d_Mo_init_673 : decode b_Mo_init 673 = .ok (.bipush 116, 2) := by decide +kernel
theorem d_Mo_init_675 : decode b_Mo_init 675 = .ok (.iastore, 1) := by decide +kernel
theorem d_Mo_init_676 : decode b_Mo_init 676 = .ok (.dup, 1) := by decide +kernel
theorem d_Mo_init_677 : decode b_Mo_init 677 = .ok (.bipush 9, 2) := by decide +kernel
theorem d_Mo_init_679 : decode b_Mo_init 679 = .ok (.bipush 47, 2) := by decide +kernel
theorem d_Mo_init_681 : decode b_Mo_init 681 = .ok (.iastore, 1) := by decide +kernel
theorem d_Mo_init_682 : decode b_Mo_init 682 = .ok (.putfield 37, 3) := by decide +kernel
theorem d_Mo_init_685 : decode b_Mo_init 685 = .ok (.aload_n 0, 1) := by decide +kernel
theorem d_Mo_init_686 : decode b_Mo_init 686 = .ok (.bipush 16, 2) := by decide +kernel
theorem d_Mo_init_688 : decode b_Mo_init 688 = .ok (.newarray .int, 2) := by decide +kernel
theorem d_Mo_init_690 : decode b_Mo_init 690 = .ok (.dup, 1) := by decide +kernel
theorem d_Mo_init_691 : decode b_Mo_init 691 = .ok (.iconst 0, 1) := by decide +kernel
theorem d_Mo_init_692 : decode b_Mo_init 692 = .ok (.bipush 109, 2) := by decide +kernel
theorem d_Mo_init_694 : decode b_Mo_init 694 = .ok (.iastore, 1) := by decide +kernel
theorem d_Mo_init_695 : decode b_Mo_init 695 = .ok (.dup, 1) := by decide +kernel
theorem d_Mo_init_696 : decode b_Mo_init 696 = .ok (.iconst 1, 1) := by decide +kernel
theorem d_Mo_init_697 : decode b_Mo_init 697 = .ok (.bipush 117, 2) := by decide +kernel
theorem d_Mo_init_699 : decode b_Mo_init 699 = .ok (.iastore, 1) := by decide +kernel
theorem d_Mo_init_700 : decode b_Mo_init 700 = .ok (.dup, 1) := by decide +kernel
theorem d_Mo_init_701 : decode b_Mo_init 701 = .ok (.iconst 2, 1) := by decide +kernel
theorem d_Mo_init_702 : decode b_Mo_init 702 = .ok (.bipush 108, 2) := by decide +kernel
theorem d_Mo_init_704 : decode b_Mo_init 704 = .ok (.iastore, 1) := by decide +kernel
theorem d_Mo_init_705 : decode b_Mo_init 705 = .ok (.dup, 1) := by decide +kernel
theorem d_Mo_init_706 : decode b_Mo_init 706 = .ok (.iconst 3, 1) := by decide +kernel
theorem d_Mo_init_707 : decode b_Mo_init 707 = .ok (.bipush 116, 2) := by decide +kernel
theorem d_Mo_init_709 : decode b_Mo_init 709 = .ok (.iastore, 1) := by decide +kernel
theorem d_Mo_init_710 : decode b_Mo_init 710 = .ok (.dup, 1) := by decide +kernel
theorem d_Mo_init_711 : decode b_Mo_init 711 = .ok (.iconst 4, 1) := by decide +kernel
theorem d_Mo_init_712 : decode b_Mo_init 712 = .ok (.bipush 105, 2) := by decide +kernel
theorem d_Mo_init_714 : decode b_Mo_init 714 = .ok (.iastore, 1) := by decide +kernel
theorem d_Mo_init_715 : decode b_Mo_init 715 = .ok (.dup, 1) := by decide +kernel
theorem d_Mo_init_716 : decode b_Mo_init 716 = .ok (.iconst 5, 1) := by decide +kernel
theorem d_Mo_init_717 : decode b_Mo_init 717 = .ok (.bipush 112, 2) := by decide +kernel
theorem d_Mo_init_719 : decode b_Mo_init 719 = .ok (.iastore, 1) := by decide +kernel
theorem d_Mo_init_720 : decode b_Mo_init 720 = .ok (.dup, 1) := by decide +kernel
theorem d_Mo_init_721 : decode b_Mo_init 721 = .ok (.bipush 6, 2) := by decide +kernel
theorem d_Mo_init_723 : decode b_Mo_init 723 = .ok (.bipush 97, 2) := by decide +kernel
theorem d_Mo_init_725 : decode b_Mo_init 725 = .ok (.iastore, 1) := by decide +kernel
theorem d_Mo_init_726 : decode b_Mo_init 726 = .ok (.dup, 1) := by decide +kernel
theorem d_Mo_init_727 : decode b_Mo_init 727 = .ok (.bipush 7, 2) := by decide +kernel
theorem d_Mo_init_729 : decode b_Mo_init 729 = .ok (.bipush 114, 2) := by decide +kernel
theorem d_Mo_init_731 : decode b_Mo_init 731 = .ok (.iastore, 1) := by decide +kernel
theorem d_Mo_init_732 : decode b_Mo_init 732 = .ok (.dup, 1) := by decide +kernel
theorem d_Mo_init_733 : decode b_Mo_init 733 = .ok (.bipush 8, 2) := by decide +kernel
theorem d_Mo_init_735 : decode b_Mo_init 735 = .ok (.bipush 116, 2) := by decide +kernel
theorem d_Mo_init_737 : decode b_Mo_init 737 = .ok (.iastore, 1) := by decide +kernel
theorem d_Mo_init_738 : decode b_Mo_init 738 = .ok (.dup, 1) := by decide +kernel
theorem d_Mo_init_739 : decode b_Mo_init 739 = .ok (.bipush 9, 2) := by decide +kernel
theorem d_Mo_init_741 : decode b_Mo_init 741 = .ok (.bipush 47, 2) := by decide +kernel
theorem d_Mo_init_743 : decode b_Mo_init 743 = .ok (.iastore, 1) := by decide +kernel
theorem d_Mo_init_744 : decode b_Mo_init 744 = .ok (.dup, 1) := by decide +kernel
theorem d_Mo_init_745 : decode b_Mo_init 745 = .ok (.bipush 10, 2) := by decide +kernel
theorem d_Mo_init_747 : decode b_Mo_init 747 = .ok (.bipush 100, 2) := by decide +kernel
theorem d_Mo_init_749 : decode b_Mo_init 749 = .ok (.iastore, 1) := by decide +kernel
theorem d_Mo_init_750 : decode b_Mo_init 750 = .ok (.dup, 1) := by decide +kernel
theorem d_Mo_init_751 : decode b_Mo_init 751 = .ok (.bipush 11, 2) := by decide +kernel
theorem d_Mo_init_753 : decode b_Mo_init 753 = .ok (.bipush 105, 2) := by decide +kernel
theorem d_Mo_init_755 : decode b_Mo_init 755 = .ok (.iastore, 1) := by decide +kernel
theorem d_Mo_init_756 : decode b_Mo_init 756 = .ok (.dup, 1) := by decide +kernel
theorem d_Mo_init_757 : decode b_Mo_init 757 = .ok (.bipush 12, 2) := by decide +kernel
theorem d_Mo_init_759 : decode b_Mo_init 759 = .ok (.bipush 103, 2) := by decide +kernel
theorem d_Mo_init_761 : decode b_Mo_init 761 = .ok (.iastore, 1) := by decide +kernel
theorem d_Mo_init_762 : decode b_Mo_init 762 = .ok (.dup, 1) := by decide +kernel
theorem d_Mo_init_763 : decode b_Mo_init 763 = .ok (.bipush 13, 2) := by decide +kernel
theorem d_Mo_init_765 : decode b_Mo_init 765 = .ok (.bipush 101, 2) := by decide +kernel
theorem d_Mo_init_767 : decode b_Mo_init 767 = .ok (.iastore, 1) := by decide +kernel
theorem d_Mo_init_768 : decode b_Mo_init 768 = .ok (.dup, 1) := by decide +kernel
theorem d_Mo_init_769 : decode b_Mo_init 769 = .ok (.bipush 14, 2) := by decide +kernel
theorem d_Mo_init_771 : decode b_Mo_init 771 = .ok (.bipush 115, 2) := by decide +kernel
theorem d_Mo_init_773 : decode b_Mo_init 773 = .ok (.iastore, 1) := by decide +kernel
theorem d_Mo_init_774 : decode b_Mo_init 774 = .ok (.dup, 1) := by decide +kernel
theorem d_Mo_init_775 : decode b_Mo_init 775 = .ok (.bipush 15, 2) := by decide +kernel
theorem d_Mo_init_777 : decode b_Mo_init 777 = .ok (.bipush 116, 2) := by decide +kernel
theorem d_Mo_init_779 : decode b_Mo_init 779 = .ok (.iastore, 1) := by decide +kernel
theorem d_Mo_init_780 : decode b_Mo_init 780 = .ok (.putfield 40, 3) := by decide +kernel
theorem d_Mo_init_783 : decode b_Mo_init 783 = .ok (.aload_n 0, 1) := by decide +kernel
theorem d_Mo_init_784 : decode b_Mo_init 784 = .ok (.bipush 21, 2) := by decide +kernel
theorem d_Mo_init_786 : decode b_Mo_init 786 = .ok (.newarray .int, 2) := by decide +kernel
theorem d_Mo_init_788 : decode b_Mo_init 788 = .ok (.dup, 1) := by decide +kernel
theorem d_Mo_init_789 : decode b_Mo_init 789 = .ok (.iconst 0, 1) := by decide +kernel
theorem d_Mo_init_790 : decode b_Mo_init 790 = .ok (.bipush 109, 2) := by decide +kernel
theorem d_Mo_init_792 : decode b_Mo_init 792 = .ok (.iastore, 1) := by decide +kernel
theorem d_Mo_init_793 : decode b_Mo_init 793 = .ok (.dup, 1) := by decide +kernel
theorem d_Mo_init_794 : decode b_Mo_init 794 = .ok (.iconst 1, 1) := by decide +kernel
theorem d_Mo_init_795 : decode b_Mo_init 795 = .ok (.bipush 117, 2) := by decide +kernel
theorem d_Mo_init_797 : decode b_Mo_init 797 = .ok (.iastore, 1) := by decide +kernel
theorem d_Mo_init_798 : decode b_Mo_init 798 = .ok (.dup, 1) := by decide +kernel
theorem d_Mo_init_799 : decode b_Mo_init 799 = .ok (.iconst 2, 1) := by decide +kernel
theorem d_Mo_init_800 : decode b_Mo_init 800 = .ok (.bipush 108, 2) := by decide +kernel
theorem d_Mo_init_802 : decode b_Mo_init 802 = .ok (.iastore, 1) := by decide +kernel
theorem d_Mo_init_803 : decode b_Mo_init 803 = .ok (.dup, 1) := by decide +kernel
theorem d_Mo_init_804 : decode b_Mo_init 804 = .ok (.iconst 3, 1) := by decide +kernel
theorem d_Mo_init_805 : decode b_Mo_init 805 = .ok (.bipush 116, 2) := by decide +kernel
theorem d_Mo_init_807 : decode b_Mo_init 807 = .ok (.iastore, 1) := by decide +kernel
theorem d_Mo_init_808 : decode b_Mo_init 808 = .ok (.dup, 1) := by decide +kernel
theorem d_Mo_init_809 : decode b_Mo_init 809 = .ok (.iconst 4, 1) := by decide +kernel
theorem d_Mo_init_810 : decode b_Mo_init 810 = .ok (.bipush 105, 2) := by decide +kernel
theorem d_Mo_init_812 : decode b_Mo_init 812 = .ok (.iastore, 1) := by decide +kernel
theorem d_Mo_init_813 : decode b_Mo_init 813 = .ok (.dup, 1) := by decide +kernel
theorem d_Mo_init_814 : decode b_Mo_init 814 = .ok (.iconst 5, 1) := by decide +kernel
theorem d_Mo_init_815 : decode b_Mo_init 815 = .ok (.bipush 112, 2) := by decide +kernel
theorem d_Mo_init_817 : decode b_Mo_init 817 = .ok (.iastore, 1) := by decide +kernel
theorem d_Mo_init_818 : decode b_Mo_init 818 = .ok (.dup, 1) := by decide +kernel
theorem d_Mo_init_819 : decode b_Mo_init 819 = .ok (.bipush 6, 2) := by decide +kernel
theorem d_Mo_init_821 : decode b_Mo_init 821 = .ok (.bipush 97, 2) := by decide +kernel
theorem d_Mo_init_823 : decode b_Mo_init 823 = .ok (.iastore, 1) := by decide +kernel
theorem d_Mo_init_824 : decode b_Mo_init 824 = .ok (.dup, 1) := by decide +kernel
theorem d_Mo_init_825 : decode b_Mo_init 825 = .ok (.bipush 7, 2) := by decide +kernel
theorem d_Mo_init_827 : decode b_Mo_init 827 = .ok (.bipush 114, 2) := by decide +kernel
theorem d_Mo_init_829 : decode b_Mo_init 829 = .ok (.iastore, 1) := by decide +kernel
theorem d_Mo_init_830 : decode b_Mo_init 830 = .ok (.dup, 1) := by decide +kernel
theorem d_Mo_init_831 : decode b_Mo_init 831 = .ok (.bipush 8, 2) := by decide +kernel
theorem d_Mo_init_833 : decode b_Mo_init 833 = .ok (.bipush 116, 2) := by decide +kernel
theorem d_Mo_init_835 : decode b_Mo_init 835 = .ok (.iastore, 1) := by decide +kernel
theorem d_Mo_init_836 : decode b_Mo_init 836 = .ok (.dup, 1) := by decide +kernel
theorem d_Mo_init_837 : decode b_Mo_init 837 = .ok (.bipush 9, 2) := by decide +kernel
theorem d_Mo_init_839 : decode b_Mo_init 839 = .ok (.bipush 47, 2) := by decide +kernel
theorem d_Mo_init_841 : decode b_Mo_init 841 = .ok (.iastore, 1) := by decide +kernel
theorem d_Mo_init_842 : decode b_Mo_init 842 = .ok (.dup, 1) := by decide +kernel
theorem d_Mo_init_843 : decode b_Mo_init 843 = .ok (.bipush 10, 2) := by decide +kernel
theorem d_Mo_init_845 : decode b_Mo_init 845 = .ok (.bipush 97, 2) := by decide +kernel
theorem d_Mo_init_847 : decode b_Mo_init 847 = .ok (.iastore, 1) := by decide +kernel
theorem d_Mo_init_848 : decode b_Mo_init 848 = .ok (.dup, 1) := by decide +kernel
theorem d_Mo_init_849 : decode b_Mo_init 849 = .ok (.bipush 11, 2) := by decide +kernel
theorem d_Mo_init_851 : decode b_Mo_init 851 = .ok (.bipush 108, 2) := by decide +kernel
theorem d_Mo_init_853 : decode b_Mo_init 853 = .ok (.iastore, 1) := by decide +kernel
theorem d_Mo_init_854 : decode b_Mo_init 854 = .ok (.dup, 1) := by decide +kernel
theorem d_Mo_init_855 : decode b_Mo_init 855 = .ok (.bipush 12, 2) := by decide +kernel
theorem d_Mo_init_857 : decode b_Mo_init 857 = .ok (.bipush 116, 2) := by decide +kernel
theorem d_Mo_init_859 : decode b_Mo_init 859 = .ok (.iastore, 1) := by decide +kernel
theorem d_Mo_init_860 : decode b_Mo_init 860 = .ok (.dup, 1) := by decide +kernel
theorem d_Mo_init_861 : decode b_Mo_init 861 = .ok (.bipush 13, 2) := by decide +kernel
theorem d_Mo_init_863 : decode b_Mo_init 863 = .ok (.bipush 101, 2) := by decide +kernel
theorem d_Mo_init_865 : decode b_Mo_init 865 = .ok (.iastore, 1) := by decide +kernel
theorem d_Mo_init_866 : decode b_Mo_init 866 = .ok (.dup, 1) := by decide +kernel
theorem d_Mo_init_867 : decode b_Mo_init 867 = .ok (.bipush 14, 2) := by decide +kernel
theorem d_Mo_init_869 : decode b_Mo_init 869 = .ok (.bipush 114, 2) := by decide +kernel
theorem d_Mo_init_871 : decode b_Mo_init 871 = .ok (.iastore, 1) := by decide +kernel
theorem d_Mo_init_872 : decode b_Mo_init 872 = .ok (.dup, 1) := by decide +kernel
theorem d_Mo_init_873 : decode b_Mo_init 873 = .ok (.bipush 15, 2) := by decide +kernel
theorem d_Mo_init_875 : decode b_Mo_init 875 = .ok (.bipush 110, 2) := by decide +kernel
theorem d_Mo_init_877 : decode b_Mo_init 877 = .ok (.iastore, 1) := by decide +kernel
theorem d_Mo_init_878 : decode b_Mo_init 878 = .ok (.dup, 1) := by decide +kernel
theorem d_Mo_init_879 : decode b_Mo_init 879 = .ok (.bipush 16, 2) := by decide +kernel
theorem d_Mo_init_881 : decode b_Mo_init 881 = .ok (.bipush 97, 2) := by decide +kernel
theorem d_Mo_init_883 : decode b_Mo_init 883 = .ok (.iastore, 1) := by decide +kernel
theorem d_Mo_init_884 : decode b_Mo_init 884 = .ok (.dup, 1) := by decide +kernel
theorem d_Mo_init_885 : decode b_Mo_init 885 = .ok (.bipush 17, 2) := by decide +kernel
theorem d_Mo_init_887 : decode b_Mo_init 887 = .ok (.bipush 116, 2) := by decide +kernel
theorem d_Mo_init_889 : decode b_Mo_init 889 = .ok (.iastore, 1) := by decide +kernel
theorem d_Mo_init_890 : decode b_Mo_init 890 = .ok (.dup, 1) := by decide +kernel
theorem d_Mo_init_891 : decode b_Mo_init 891 = .ok (.bipush 18, 2) := by decide +kernel
theorem d_Mo_init_893 : decode b_Mo_init 893 = .ok (.bipush 105, 2) := by decide +kernel
theorem d_Mo_init_895 : decode b_Mo_init 895 = .ok (.iastore, 1) := by decide +kernel
theorem d_Mo_init_896 : decode b_Mo_init 896 = .ok (.dup, 1) := by decide +kernel
theorem d_Mo_init_897 : decode b_Mo_init 897 = .ok (.bipush 19, 2) := by decide +kernel
theorem d_Mo_init_899 : decode b_Mo_init 899 = .ok (.bipush 118, 2) := by decide +kernel
theorem d_Mo_init_901 : decode b_Mo_init 901 = .ok (.iastore, 1) := by decide +kernel
theorem d_Mo_init_902 : decode b_Mo_init 902 = .ok (.dup, 1) := by decide +kernel
theorem d_Mo_init_903 : decode b_Mo_init 903 = .ok (.bipush 20, 2) := by decide +kernel
theorem d_Mo_init_905 : decode b_Mo_init 905 = .ok (.bipush 101, 2) := by decide +kernel
theorem d_Mo_init_907 : decode b_Mo_init 907 = .ok (.iastore, 1) := by decide +kernel
theorem d_Mo_init_908 : decode b_Mo_init 908 = .ok (.putfield 43, 3) := by decide +kernel
theorem d_Mo_init_911 : decode b_Mo_init 911 = .ok (.aload_n 0, 1) := by decide +kernel
theorem d_Mo_init_912 : decode b_Mo_init 912 = .ok (.bipush 14, 2) := by decide +kernel
theorem d_Mo_init_914 : decode b_Mo_init 914 = .ok (.newarray .int, 2) := by decide +kernel
theorem d_Mo_init_916 : decode b_Mo_init 916 = .ok (.dup, 1) := by decide +kernel
theorem d_Mo_init_917 : decode b_Mo_init 917 = .ok (.iconst 0, 1) := by decide +kernel
theorem d_Mo_init_918 : decode b_Mo_init 918 = .ok (.bipush 109, 2) := by decide +kernel
theorem d_Mo_init_920 : decode b_Mo_init 920 = .ok (.iastore, 1) := by decide +kernel
theorem d_Mo_init_921 : decode b_Mo_init 921 = .ok (.dup, 1) := by decide +kernel
theorem d_Mo_init_922 : decode b_Mo_init 922 = .ok (.iconst 1, 1) := by decide +kernel
theorem d_Mo_init_923 : decode b_Mo_init 923 = .ok (.bipush 101, 2) := by decide +kernel
theorem d_Mo_init_925 : decode b_Mo_init 925 = .ok (.iastore, 1) := by decide +kernel
theorem d_Mo_init_926 : decode b_Mo_init 926 = .ok (.dup, 1) := by decide +kernel
theorem d_Mo_init_927 : decode b_Mo_init 927 = .ok (.iconst 2, 1) := by decide +kernel
theorem d_Mo_init_928 : decode b_Mo_init 928 = .ok (.bipush 115, 2) := by decide +kernel
theorem d_Mo_init_930 : decode b_Mo_init 930 = .ok (.iastore, 1) := by decide +kernel
theorem d_Mo_init_931 : decode b_Mo_init 931 = .ok (.dup, 1) := by decide +kernel
theorem d_Mo_init_932 : decode b_Mo_init 932 = .ok (.iconst 3, 1) := by decide +kernel
theorem d_Mo_init_933 : decode b_Mo_init 933 = .ok (.bipush 115, 2) := by decide +kernel
theorem d_Mo_init_935 : decode b_Mo_init 935 = .ok (.iastore, 1) := by decide +kernel
theorem d_Mo_init_936 : decode b_Mo_init 936 = .ok (.dup, 1) := by decide +kernel
theorem d_Mo_init_937 : decode b_Mo_init 937 = .ok (.iconst 4, 1) := by decide +kernel
theorem d_Mo_init_938 : decode b_Mo_init 938 = .ok (.bipush 97, 2) := by decide +kernel
theorem d_Mo_init_940 : decode b_Mo_init 940 = .ok (.iastore, 1) := by decide +kernel
theorem d_Mo_init_941 : decode b_Mo_init 941 = .ok (.dup, 1) := by decide +kernel
theorem d_Mo_init_942 : decode b_Mo_init 942 = .ok (.iconst 5, 1) := by decide +kernel
theorem d_Mo_init_943 : decode b_Mo_init 943 = .ok (.bipush 103, 2) := by decide +kernel
theorem d_Mo_init_945 : decode b_Mo_init 945 = .ok (.iastore, 1) := by decide +kernel
theorem d_Mo_init_946 : decode b_Mo_init 946 = .ok (.dup, 1) := by decide +kernel
theorem d_Mo_init_947 : decode b_Mo_init 947 = .ok (.bipush 6, 2) := by decide +kernel
theorem d_Mo_init_949 : decode b_Mo_init 949 = .ok (.bipush 101, 2) := by decide +kernel
theorem d_Mo_init_951 : decode b_Mo_init 951 = .ok (.iastore, 1) := by decide +kernel
theorem d_Mo_init_952 : decode b_Mo_init 952 = .ok (.dup, 1) := by decide +kernel
theorem d_Mo_init_953 : decode b_Mo_init 953 = .ok (.bipush 7, 2) := by decide +kernel
theorem d_Mo_init_955 : decode b_Mo_init 955 = .ok (.bipush 47, 2) := by decide +kernel
theorem d_Mo_init_957 : decode b_Mo_init 957 = .ok (.iastore, 1) := by decide +kernel
theorem d_Mo_init_958 : decode b_Mo_init 958 = .ok (.dup, 1) := by decide +kernel
theorem d_Mo_init_959 : decode b_Mo_init 959 = .ok (.bipush 8, 2) := by decide +kernel
theorem d_Mo_init_961 : decode b_Mo_init 961 = .ok (.bipush 114, 2) := by decide +kernel
theorem d_Mo_init_963 : decode b_Mo_init 963 = .ok (.iastore, 1) := by decide +kernel
theorem d_Mo_init_964 : decode b_Mo_init 964 = .ok (.dup, 1) := by decide +kernel
theorem d_Mo_init_965 : decode b_Mo_init 965 = .ok (.bipush 9, 2) := by decide +kernel
theorem d_Mo_init_967 : decode b_Mo_init 967 = .ok (.bipush 102, 2) := by decide +kernel
theorem d_Mo_init_969 : decode b_Mo_init 969 = .ok (.iastore, 1) := by decide +kernel
theorem d_Mo_init_970 : decode b_Mo_init 970 = .ok (.dup, 1) := by decide +kernel
theorem d_Mo_init_971 : decode b_Mo_init 971 = .ok (.bipush 10, 2) := by decide +kernel
theorem d_Mo_init_973 : decode b_Mo_init 973 = .ok (.bipush 99, 2) := by decide +kernel
theorem d_Mo_init_975 : decode b_Mo_init 975 = .ok (.iastore, 1) := by decide +kernel
theorem d_Mo_init_976 : decode b_Mo_init 976 = .ok (.dup, 1) := by decide +kernel
theorem d_Mo_init_977 : decode b_Mo_init 977 = .ok (.bipush 11, 2) := by decide +kernel
theorem d_Mo_init_979 : decode b_Mo_init 979 = .ok (.bipush 56, 2) := by decide +kernel
theorem d_Mo_init_981 : decode b_Mo_init 981 = .ok (.iastore, 1) := by decide +kernel
theorem d_Mo_init_982 : decode b_Mo_init 982 = .ok (.dup, 1) := by decide +kernel
end
section
theorem d_Mo_init_983 : decode b_Mo_init 983 = .ok (.bipush 12, 2) := by decide +kernel
theorem d_Mo_init_985 : decode b_Mo_init 985 = .ok (.bipush 50, 2) := by decide +kernel
theorem d_Mo_init_987 : decode b_Mo_init 987 = .ok (.iastore, 1) := by decide +kernel
theorem d_Mo_init_988 : decode b_Mo_init 988 = .ok (.dup, 1) := by decide +kernel
theorem d_Mo_init_989 : decode b_Mo_init 989 = .ok (.bipush 13, 2) := by decide +kernel
theorem d_Mo_init_991 : decode b_Mo_init 991 = .ok (.bipush 50, 2) := by decide +kernel
theorem d_Mo_init_993 : decode b_Mo_init 993 = .ok (.iastore, 1) := by decide +kernel
theorem d_Mo_init_994 : decode b_Mo_init 994 = .ok (.putfield 46, 3) := by decide +kernel
theorem d_Mo_init_997 : decode b_Mo_init 997 = .ok (.aload_n 0, 1) := by decide +kernel
theorem d_Mo_init_998 : decode b_Mo_init 998 = .ok (.bipush 10, 2) := by decide +kernel
theorem d_Mo_init_1000 : decode b_Mo_init 1000 = .ok (.newarray .int, 2) := by decide +kernel
theorem d_Mo_init_1002 : decode b_Mo_init 1002 = .ok (.dup, 1) := by decide +kernel
theorem d_Mo_init_1003 : decode b_Mo_init 1003 = .ok (.iconst 0, 1) := by decide +kernel
theorem d_Mo_init_1004 : decode b_Mo_init 1004 = .ok (.bipush 97, 2) := by decide +kernel
theorem d_Mo_init_1006 : decode b_Mo_init 1006 = .ok (.iastore, 1) := by decide +kernel
theorem d_Mo_init_1007 : decode b_Mo_init 1007 = .ok (.dup, 1) := by decide +kernel
theorem d_Mo_init_1008 : decode b_Mo_init 1008 = .ok (.iconst 1, 1) := by decide +kernel
theorem d_Mo_init_1009 : decode b_Mo_init 1009 = .ok (.bipush 116, 2) := by decide +kernel
theorem d_Mo_init_1011 : decode b_Mo_init 1011 = .ok (.iastore, 1) := by decide +kernel
theorem d_Mo_init_1012 : decode b_Mo_init 1012 = .ok (.dup, 1) := by decide +kernel
theorem d_Mo_init_1013 : decode b_Mo_init 1013 = .ok (.iconst 2, 1) := by decide +kernel
theorem d_Mo_init_1014 : decode b_Mo_init 1014 = .ok (.bipush 116, 2) := by decide +kernel
theorem d_Mo_init_1016 : decode b_Mo_init 1016 = .ok (.iastore, 1) := by decide +kernel
theorem d_Mo_init_1017 : decode b_Mo_init 1017 = .ok (.dup, 1) := by decide +kernel
theorem d_Mo_init_1018 : decode b_Mo_init 1018 = .ok (.iconst 3, 1) := by decide +kernel
theorem d_Mo_init_1019 : decode b_Mo_init 1019 = .ok (.bipush 97, 2) := by decide +kernel
theorem d_Mo_init_1021 : decode b_Mo_init 1021 = .ok (.iastore, 1) := by decide +kernel
theorem d_Mo_init_1022 : decode b_Mo_init 1022 = .ok (.dup, 1) := by decide +kernel
theorem d_Mo_init_1023 : decode b_Mo_init 1023 = .ok (.iconst 4, 1) := by decide +kernel
theorem d_Mo_init_1024 : decode b_Mo_init 1024 = .ok (.bipush 99, 2) := by decide +kernel
theorem d_Mo_init_1026 : decode b_Mo_init 1026 = .ok (.iastore, 1) := by decide +kernel
theorem d_Mo_init_1027 : decode b_Mo_init 1027 = .ok (.dup, 1) := by decide +kernel
theorem d_Mo_init_1028 : decode b_Mo_init 1028 = .ok (.iconst 5, 1) := by decide +kernel
theorem d_Mo_init_1029 : decode b_Mo_init 1029 = .ok (.bipush 104, 2) := by decide +kernel
theorem d_Mo_init_1031 : decode b_Mo_init 1031 = .ok (.iastore, 1) := by decide +kernel
theorem d_Mo_init_1032 : decode b_Mo_init 1032 = .ok (.dup, 1) := by decide +kernel
theorem d_Mo_init_1033 : decode b_Mo_init 1033 = .ok (.bipush 6, 2) := by decide +kernel
theorem d_Mo_init_1035 : decode b_Mo_init 1035 = .ok (.bipush 109, 2) := by decide +kernel
theorem d_Mo_init_1037 : decode b_Mo_init 1037 = .ok (.iastore, 1) := by decide +kernel
theorem d_Mo_init_1038 : decode b_Mo_init 1038 = .ok (.dup, 1) := by decide +kernel
theorem d_Mo_init_1039 : decode b_Mo_init 1039 = .ok (.bipush 7, 2) := by decide +kernel
theorem d_Mo_init_1041 : decode b_Mo_init 1041 = .ok (.bipush 101, 2) := by decide +kernel
theorem d_Mo_init_1043 : decode b_Mo_init 1043 = .ok (.iastore, 1) := by decide +kernel
theorem d_Mo_init_1044 : decode b_Mo_init 1044 = .ok (.dup, 1) := by decide +kernel
theorem d_Mo_init_1045 : decode b_Mo_init 1045 = .ok (.bipush 8, 2) := by decide +kernel
theorem d_Mo_init_1047 : decode b_Mo_init 1047 = .ok (.bipush 110, 2) := by decide +kernel
theorem d_Mo_init_1049 : decode b_Mo_init 1049 = .ok (.iastore, 1) := by decide +kernel
theorem d_Mo_init_1050 : decode b_Mo_init 1050 = .ok (.dup, 1) := by decide +kernel
theorem d_Mo_init_1051 : decode b_Mo_init 1051 = .ok (.bipush 9, 2) := by decide +kernel
theorem d_Mo_init_1053 : decode b_Mo_init 1053 = .ok (.bipush 116, 2) := by decide +kernel
theorem d_Mo_init_1055 : decode b_Mo_init 1055 = .ok (.iastore, 1) := by decide +kernel
theorem d_Mo_init_1056 : decode b_Mo_init 1056 = .ok (.putfield 49, 3) := by decide +kernel
theorem d_Mo_init_1059 : decode b_Mo_init 1059 = .ok (.aload_n 0, 1) := by decide +kernel
theorem d_Mo_init_1060 : decode b_Mo_init 1060 = .ok (.iconst 4, 1) := by decide +kernel
theorem d_Mo_init_1061 : decode b_Mo_init 1061 = .ok (.newarray .int, 2) := by decide +kernel
theorem d_Mo_init_1063 : decode b_Mo_init 1063 = .ok (.dup, 1) := by decide +kernel
theorem d_Mo_init_1064 : decode b_Mo_init 1064 = .ok (.iconst 0, 1) := by decide +kernel
theorem d_Mo_init_1065 : decode b_Mo_init 1065 = .ok (.bipush 55, 2) := by decide +kernel
theorem d_Mo_init_1067 : decode b_Mo_init 1067 = .ok (.iastore, 1) := by decide +kernel
theorem d_Mo_init_1068 : decode b_Mo_init 1068 = .ok (.dup, 1) := by decide +kernel
theorem d_Mo_init_1069 : decode b_Mo_init 1069 = .ok (.iconst 1, 1) := by decide +kernel
theorem d_Mo_init_1070 : decode b_Mo_init 1070 = .ok (.bipush 98, 2) := by decide +kernel
theorem d_Mo_init_1072 : decode b_Mo_init 1072 = .ok (.iastore, 1) := by decide +kernel
theorem d_Mo_init_1073 : decode b_Mo_init 1073 = .ok (.dup, 1) := by decide +kernel
theorem d_Mo_init_1074 : decode b_Mo_init 1074 = .ok (.iconst 2, 1) := by decide +kernel
theorem d_Mo_init_1075 : decode b_Mo_init 1075 = .ok (.bipush 105, 2) := by decide +kernel
theorem d_Mo_init_1077 : decode b_Mo_init 1077 = .ok (.iastore, 1) := by decide +kernel
theorem d_Mo_init_1078 : decode b_Mo_init 1078 = .ok (.dup, 1) := by decide +kernel
theorem d_Mo_init_1079 : decode b_Mo_init 1079 = .ok (.iconst 3, 1) := by decide +kernel
theorem d_Mo_init_1080 : decode b_Mo_init 1080 = .ok (.bipush 116, 2) := by decide +kernel
theorem d_Mo_init_1082 : decode b_Mo_init 1082 = .ok (.iastore, 1) := by decide +kernel
theorem d_Mo_init_1083 : decode b_Mo_init 1083 = .ok (.putfield 52, 3) := by decide +kernel
theorem d_Mo_init_1086 : decode b_Mo_init 1086 = .ok (.aload_n 0, 1) := by decide +kernel
theorem d_Mo_init_1087 : decode b_Mo_init 1087 = .ok (.iconst 4, 1) := by decide +kernel
theorem d_Mo_init_1088 : decode b_Mo_init 1088 = .ok (.newarray .int, 2) := by decide +kernel
theorem d_Mo_init_1090 : decode b_Mo_init 1090 = .ok (.dup, 1) := by decide +kernel
theorem d_Mo_init_1091 : decode b_Mo_init 1091 = .ok (.iconst 0, 1) := by decide +kernel
theorem d_Mo_init_1092 : decode b_Mo_init 1092 = .ok (.bipush 56, 2) := by decide +kernel
theorem d_Mo_init_1094 : decode b_Mo_init 1094 = .ok (.iastore, 1) := by decide +kernel
theorem d_Mo_init_1095 : decode b_Mo_init 1095 = .ok (.dup, 1) := by decide +kernel
theorem d_Mo_init_1096 : decode b_Mo_init 1096 = .ok (.iconst 1, 1) := by decide +kernel
theorem d_Mo_init_1097 : decode b_Mo_init 1097 = .ok (.bipush 98, 2) := by decide +kernel
theorem d_Mo_init_1099 : decode b_Mo_init 1099 = .ok (.iastore, 1) := by decide +kernel
theorem d_Mo_init_1100 : decode b_Mo_init 1100 = .ok (.dup, 1) := by decide +kernel
theorem d_Mo_init_1101 : decode b_Mo_init 1101 = .ok (.iconst 2, 1) := by decide +kernel
theorem d_Mo_init_1102 : decode b_Mo_init 1102 = .ok (.bipush 105, 2) := by decide +kernel
theorem d_Mo_init_1104 : decode b_Mo_init 1104 = .ok (.iastore, 1) := by decide +kernel
theorem d_Mo_init_1105 : decode b_Mo_init 1105 = .ok (.dup, 1) := by decide +kernel
theorem d_Mo_init_1106 : decode b_Mo_init 1106 = .ok (.iconst 3, 1) := by decide +kernel
theorem d_Mo_init_1107 : decode b_Mo_init 1107 = .ok (.bipush 116, 2) := by decide +kernel
theorem d_Mo_init_1109 : decode b_Mo_init 1109 = .ok (.iastore, 1) := by decide +kernel
theorem d_Mo_init_1110 : decode b_Mo_init 1110 = .ok (.putfield 55, 3) := by decide +kernel
theorem d_Mo_init_1113 : decode b_Mo_init 1113 = .ok (.aload_n 0, 1) := by decide +kernel
theorem d_Mo_init_1114 : decode b_Mo_init 1114 = .ok (.bipush 6, 2) := by decide +kernel
theorem d_Mo_init_1116 : decode b_Mo_init 1116 = .ok (.newarray .int, 2) := by decide +kernel
theorem d_Mo_init_1118 : decode b_Mo_init 1118 = .ok (.dup, 1) := by decide +kernel
theorem d_Mo_init_1119 : decode b_Mo_init 1119 = .ok (.iconst 0, 1) := by decide +kernel
theorem d_Mo_init_1120 : decode b_Mo_init 1120 = .ok (.bipush 98, 2) := by decide +kernel
theorem d_Mo_init_1122 : decode b_Mo_init 1122 = .ok (.iastore, 1) := by decide +kernel
theorem d_Mo_init_1123 : decode b_Mo_init 1123 = .ok (.dup, 1) := by decide +kernel
theorem d_Mo_init_1124 : decode b_Mo_init 1124 = .ok (.iconst 1, 1) := by decide +kernel
theorem d_Mo_init_1125 : decode b_Mo_init 1125 = .ok (.bipush 105, 2) := by decide +kernel
theorem d_Mo_init_1127 : decode b_Mo_init 1127 = .ok (.iastore, 1) := by decide +kernel
theorem d_Mo_init_1128 : decode b_Mo_init 1128 = .ok (.dup, 1) := by decide +kernel
theorem d_Mo_init_1129 : decode b_Mo_init 1129 = .ok (.iconst 2, 1) := by decide +kernel
theorem d_Mo_init_1130 : decode b_Mo_init 1130 = .ok (.bipush 110, 2) := by decide +kernel
theorem d_Mo_init_1132 : decode b_Mo_init 1132 = .ok (.iastore, 1) := by decide +kernel
theorem d_Mo_init_1133 : decode b_Mo_init 1133 = .ok (.dup, 1) := by decide +kernel
theorem d_Mo_init_1134 : decode b_Mo_init 1134 = .ok (.iconst 3, 1) := by decide +kernel
theorem d_Mo_init_1135 : decode b_Mo_init 1135 = .ok (.bipush 97, 2) := by decide +kernel
theorem d_Mo_init_1137 : decode b_Mo_init 1137 = .ok (.iastore, 1) := by decide +kernel
theorem d_Mo_init_1138 : decode b_Mo_init 1138 = .ok (.dup, 1) := by decide +kernel
theorem d_Mo_init_1139 : decode b_Mo_init 1139 = .ok (.iconst 4, 1) := by decide +kernel
theorem d_Mo_init_1140 : decode b_Mo_init 1140 = .ok (.bipush 114, 2) := by decide +kernel
theorem d_Mo_init_1142 : decode b_Mo_init 1142 = .ok (.iastore, 1) := by decide +kernel
theorem d_Mo_init_1143 : decode b_Mo_init 1143 = .ok (.dup, 1) := by decide +kernel
theorem d_Mo_init_1144 : decode b_Mo_init 1144 = .ok (.iconst 5, 1) := by decide +kernel
theorem d_Mo_init_1145 : decode b_Mo_init 1145 = .ok (.bipush 121, 2) := by decide +kernel
theorem d_Mo_init_1147 : decode b_Mo_init 1147 = .ok (.iastore, 1) := by decide +kernel
theorem d_Mo_init_1148 : decode b_Mo_init 1148 = .ok (.putfield 58, 3) := by decide +kernel
theorem d_Mo_init_1151 : decode b_Mo_init 1151 = .ok (.aload_n 0, 1) := by decide +kernel
theorem d_Mo_init_1152 : decode b_Mo_init 1152 = .ok (.bipush 20, 2) := by decide +kernel
theorem d_Mo_init_1154 : decode b_Mo_init 1154 = .ok (.newarray .byte, 2) := by decide +kernel
theorem d_Mo_init_1156 : decode b_Mo_init 1156 = .ok (.putfield 61, 3) := by decide +kernel
theorem d_Mo_init_1159 : decode b_Mo_init 1159 = .ok (.aload_n 0, 1) := by decide +kernel
theorem d_Mo_init_1160 : decode b_Mo_init 1160 = .ok (.sipush 1500, 3) := by decide +kernel
theorem d_Mo_init_1163 : decode b_Mo_init 1163 = .ok (.newarray .byte, 2) := by decide +kernel
theorem d_Mo_init_1165 : decode b_Mo_init 1165 = .ok (.putfield 65, 3) := by decide +kernel
theorem d_Mo_init_1168 : decode b_Mo_init 1168 = .ok (.aload_n 0, 1) := by decide +kernel
theorem d_Mo_init_1169 : decode b_Mo_init 1169 = .ok (.sipush 1500, 3) := by decide +kernel
theorem d_Mo_init_1172 : decode b_Mo_init 1172 = .ok (.newarray .byte, 2) := by decide +kernel
theorem d_Mo_init_1174 : decode b_Mo_init 1174 = .ok (.putfield 68, 3) := by decide +kernel
theorem d_Mo_init_1177 : decode b_Mo_init 1177 = .ok (.aload_n 0, 1) := by decide +kernel
theorem d_Mo_init_1178 : decode b_Mo_init 1178 = .ok (.sipush 1501, 3) := by decide +kernel
theorem d_Mo_init_1181 : decode b_Mo_init 1181 = .ok (.newarray .int, 2) := by decide +kernel
theorem d_Mo_init_1183 : decode b_Mo_init 1183 = .ok (.putfield 71, 3) := by decide +kernel
theorem d_Mo_init_1186 : decode b_Mo_init 1186 = .ok (.aload_n 0, 1) := by decide +kernel
theorem d_Mo_init_1187 : decode b_Mo_init 1187 = .ok (.sipush 1501, 3) := by decide +kernel
theorem d_Mo_init_1190 : decode b_Mo_init 1190 = .ok (.newarray .int, 2) := by decide +kernel
theorem d_Mo_init_1192 : decode b_Mo_init 1192 = .ok (.putfield 74, 3) := by decide +kernel
theorem d_Mo_init_1195 : decode b_Mo_init 1195 = .ok (.aload_n 0, 1) := by decide +kernel
theorem d_Mo_init_1196 : decode b_Mo_init 1196 = .ok (.bipush 60, 2) := by decide +kernel
theorem d_Mo_init_1198 : decode b_Mo_init 1198 = .ok (.newarray .int, 2) := by decide +kernel
theorem d_Mo_init_1200 : decode b_Mo_init 1200 = .ok (.putfield 77, 3) := by decide +kernel
theorem d_Mo_init_1203 : decode b_Mo_init 1203 = .ok (.aload_n 0, 1) := by decide +kernel
theorem d_Mo_init_1204 : decode b_Mo_init 1204 = .ok (.bipush 60, 2) := by decide +kernel
theorem d_Mo_init_1206 : decode b_Mo_init 1206 = .ok (.newarray .int, 2) := by decide +kernel
theorem d_Mo_init_1208 : decode b_Mo_init 1208 = .ok (.putfield 80, 3) := by decide +kernel
theorem d_Mo_init_1211 : decode b_Mo_init 1211 = .ok (.aload_n 0, 1) := by decide +kernel
theorem d_Mo_init_1212 : decode b_Mo_init 1212 = .ok (.bipush 60, 2) := by decide +kernel
theorem d_Mo_init_1214 : decode b_Mo_init 1214 = .ok (.newarray .int, 2) := by decide +kernel
theorem d_Mo_init_1216 : decode b_Mo_init 1216 = .ok (.putfield 83, 3) := by decide +kernel
theorem d_Mo_init_1219 : decode b_Mo_init 1219 = .ok (.aload_n 0, 1) := by decide +kernel
theorem d_Mo_init_1220 : decode b_Mo_init 1220 = .ok (.bipush 60, 2) := by decide +kernel
theorem d_Mo_init_1222 : decode b_Mo_init 1222 = .ok (.newarray .int, 2) := by decide +kernel
theorem d_Mo_init_1224 : decode b_Mo_init 1224 = .ok (.putfield 86, 3) := by decide +kernel
theorem d_Mo_init_1227 : decode b_Mo_init 1227 = .ok (.aload_n 0, 1) := by decide +kernel
theorem d_Mo_init_1228 : decode b_Mo_init 1228 = .ok (.bipush 60, 2) := by decide +kernel
theorem d_Mo_init_1230 : decode b_Mo_init 1230 = .ok (.newarray .int, 2) := by decide +kernel
theorem d_Mo_init_1232 : decode b_Mo_init 1232 = .ok (.putfield 89, 3) := by decide +kernel
theorem d_Mo_init_1235 : decode b_Mo_init 1235 = .ok (.aload_n 0, 1) := by decide +kernel
theorem d_Mo_init_1236 : decode b_Mo_init 1236 = .ok (.bipush 60, 2) := by decide +kernel
theorem d_Mo_init_1238 : decode b_Mo_init 1238 = .ok (.newarray .int, 2) := by decide +kernel
theorem d_Mo_init_1240 : decode b_Mo_init 1240 = .ok (.putfield 92, 3) := by decide +kernel
theorem d_Mo_init_1243 : decode b_Mo_init 1243 = .ok (.aload_n 0, 1) := by decide +kernel
theorem d_Mo_init_1244 : decode b_Mo_init 1244 = .ok (.bipush 60, 2) := by decide +kernel
theorem d_Mo_init_1246 : decode b_Mo_init 1246 = .ok (.newarray .int, 2) := by decide +kernel
theorem d_Mo_init_1248 : decode b_Mo_init 1248 = .ok (.putfield 95, 3) := by decide +kernel
theorem d_Mo_init_1251 : decode b_Mo_init 1251 = .ok (.aload_n 0, 1) := by decide +kernel
theorem d_Mo_init_1252 : decode b_Mo_init 1252 = .ok (.bipush 60, 2) := by decide +kernel
theorem d_Mo_init_1254 : decode b_Mo_init 1254 = .ok (.newarray .long, 2) := by decide +kernel
theorem d_Mo_init_1256 : decode b_Mo_init 1256 = .ok (.putfield 98, 3) := by decide +kernel
theorem d_Mo_init_1259 : decode b_Mo_init 1259 = .ok (.aload_n 0, 1) := by decide +kernel
theorem d_Mo_init_1260 : decode b_Mo_init 1260 = .ok (.sipush 420, 3) := by decide +kernel
theorem d_Mo_init_1263 : decode b_Mo_init 1263 = .ok (.newarray .int, 2) := by decide +kernel
theorem d_Mo_init_1265 : decode b_Mo_init 1265 = .ok (.putfield 102, 3) := by decide +kernel
theorem d_Mo_init_1268 : decode b_Mo_init 1268 = .ok (.aload_n 0, 1) := by decide +kernel
theorem d_Mo_init_1269 : decode b_Mo_init 1269 = .ok (.sipush 420, 3) := by decide +kernel
theorem d_Mo_init_1272 : decode b_Mo_init 1272 = .ok (.newarray .int, 2) := by decide +kernel
theorem d_Mo_init_1274 : decode b_Mo_init 1274 = .ok (.putfield 105, 3) := by decide +kernel
theorem d_Mo_init_1277 : decode b_Mo_init 1277 = .ok (.aload_n 0, 1) := by decide +kernel
theorem d_Mo_init_1278 : decode b_Mo_init 1278 = .ok (.sipush 420, 3) := by decide +kernel
theorem d_Mo_init_1281 : decode b_Mo_init 1281 = .ok (.newarray .int, 2) := by decide +kernel
theorem d_Mo_init_1283 : decode b_Mo_init 1283 = .ok (.putfield 108, 3) := by decide +kernel
theorem d_Mo_init_1286 : decode b_Mo_init 1286 = .ok (.aload_n 0, 1) := by decide +kernel
theorem d_Mo_init_1287 : decode b_Mo_init 1287 = .ok (.sipush 400, 3) := by decide +kernel
theorem d_Mo_init_1290 : decode b_Mo_init 1290 = .ok (.newarray .int, 2) := by decide +kernel
theorem d_Mo_init_1292 : decode b_Mo_init 1292 = .ok (.putfield 111, 3) := by decide +kernel
theorem d_Mo_init_1295 : decode b_Mo_init 1295 = .ok (.aload_n 0, 1) := by decide +kernel
theorem d_Mo_init_1296 : decode b_Mo_init 1296 = .ok (.sipush 400, 3) := by decide +kernel
theorem d_Mo_init_1299 : decode b_Mo_init 1299 = .ok (.newarray .int, 2) := by decide +kernel
theorem d_Mo_init_1301 : decode b_Mo_init 1301 = .ok (.putfield 114, 3) := by decide +kernel
theorem d_Mo_init_1304 : decode b_Mo_init 1304 = .ok (.aload_n 0, 1) := by decide +kernel
theorem d_Mo_init_1305 : decode b_Mo_init 1305 = .ok (.sipush 1500, 3) := by decide +kernel
theorem d_Mo_init_1308 : decode b_Mo_init 1308 = .ok (.newarray .byte, 2) := by decide +kernel
theorem d_Mo_init_1310 : decode b_Mo_init 1310 = .ok (.putfield 117, 3) := by decide +kernel
theorem d_Mo_init_1313 : decode b_Mo_init 1313 = .ok (.aload_n 0, 1) := by decide +kernel
theorem d_Mo_init_1314 : decode b_Mo_init 1314 = .ok (.sipush 1510, 3) := by decide +kernel
theorem d_Mo_init_1317 : decode b_Mo_init 1317 = .ok (.newarray .int, 2) := by decide +kernel
theorem d_Mo_init_1319 : decode b_Mo_init 1319 = .ok (.putfield 120, 3) := by decide +kernel
theorem d_Mo_init_1322 : decode b_Mo_init 1322 = .ok (.aload_n 0, 1) := by decide +kernel
theorem d_Mo_init_1323 : decode b_Mo_init 1323 = .ok (.sipush 1510, 3) := by decide +kernel
theorem d_Mo_init_1326 : decode b_Mo_init 1326 = .ok (.newarray .int, 2) := by decide +kernel
theorem d_Mo_init_1328 : decode b_Mo_init 1328 = .ok (.putfield 123, 3) := by decide +kernel
theorem d_Mo_init_1331 : decode b_Mo_init 1331 = .ok (.aload_n 0, 1) := by decide +kernel
theorem d_Mo_init_1332 : decode b_Mo_init 1332 = .ok (.sipush 1500, 3) := by decide +kernel
theorem d_Mo_init_1335 : decode b_Mo_init 1335 = .ok (.newarray .byte, 2) := by decide +kernel
theorem d_Mo_init_1337 : decode b_Mo_init 1337 = .ok (.putfield 126, 3) := by decide +kernel
theorem d_Mo_init_1340 : decode b_Mo_init 1340 = .ok (.aload_n 0, 1) := by decide +kernel
theorem d_Mo_init_1341 : decode b_Mo_init 1341 = .ok (.sipush 1500, 3) := by decide +kernel
theorem d_Mo_init_1344 : decode b_Mo_init 1344 = .ok (.newarray .byte, 2) := by decide +kernel
theorem d_Mo_init_1346 : decode b_Mo_init 1346 = .ok (.putfield 129, 3) := by decide +kernel
theorem d_Mo_init_1349 : decode b_Mo_init 1349 = .ok (.aload_n 0, 1) := by decide +kernel
theorem d_Mo_init_1350 : decode b_Mo_init 1350 = .ok (.sipush 1500, 3) := by decide +kernel
theorem d_Mo_init_1353 : decode b_Mo_init 1353 = .ok (.newarray .int, 2) := by decide +kernel
theorem d_Mo_init_1355 : decode b_Mo_init 1355 = .ok (.putfield 132, 3) := by decide +kernel
theorem d_Mo_init_1358 : decode b_Mo_init 1358 = .ok (.return_, 1) := by decide +kernel
end
section
theorem d_Mo_isBlank_0 : decode b_Mo_isBlank 0 = .ok (.iload_n 0, 1) := by decide +kernel
theorem d_Mo_isBlank_1 : decode b_Mo_isBlank 1 = .ok (.bipush 32, 2) := by decide +kernel
theorem d_Mo_isBlank_3 : decode b_Mo_isBlank 3 = .ok (.if_icmp .eq 9, 3) := by decide +kernel
theorem d_Mo_isBlank_6 : decode b_Mo_isBlank 6 = .ok (.iload_n 0, 1) := by decide +kernel
theorem d_Mo_isBlank_7 : decode b_Mo_isBlank 7 = .ok (.bipush 9, 2) := by decide +kernel
theorem d_Mo_isBlank_9 : decode b_Mo_isBlank 9 = .ok (.if_icmp .ne 7, 3) := by decide +kernel
theorem d_Mo_isBlank_12 : decode b_Mo_isBlank 12 = .ok (.iconst 1, 1) := by decide +kernel
theorem d_Mo_isBlank_13 : decode b_Mo_isBlank 13 = .ok (.goto 4, 3) := by decide +kernel
theorem d_Mo_isBlank_16 : decode b_Mo_isBlank 16 = .ok (.iconst 0, 1) := by decide +kernel
theorem d_Mo_isBlank_17 : decode b_Mo_isBlank 17 = .ok (.ireturn, 1) := by decide +kernel
theorem d_Mo_small_0 : decode b_Mo_small 0 = .ok (.iload_n 0, 1) := by decide +kernel
theorem d_Mo_small_1 : decode b_Mo_small 1 = .ok (.bipush 65, 2) := by decide +kernel
theorem d_Mo_small_3 : decode b_Mo_small 3 = .ok (.if_icmp .lt 16, 3) := by decide +kernel
theorem d_Mo_small_6 : decode b_Mo_small 6 = .ok (.iload_n 0, 1) := by decide +kernel
theorem d_Mo_small_7 : decode b_Mo_small 7 = .ok (.bipush 90, 2) := by decide +kernel
theorem d_Mo_small_9 : decode b_Mo_small 9 = .ok (.if_icmp .gt 10, 3) := by decide +kernel
theorem d_Mo_small_12 : decode b_Mo_small 12 = .ok (.iload_n 0, 1) := by decide +kernel
theorem d_Mo_small_13 : decode b_Mo_small 13 = .ok (.bipush 32, 2) := by decide +kernel
theorem d_Mo_small_15 : decode b_Mo_small 15 = .ok (.iadd, 1) := by decide +kernel
theorem d_Mo_small_16 : decode b_Mo_small 16 = .ok (.goto 4, 3) := by decide +kernel
theorem d_Mo_small_19 : decode b_Mo_small 19 = .ok (.iload_n 0, 1) := by decide +kernel
theorem d_Mo_small_20 : decode b_Mo_small 20 = .ok (.ireturn, 1) := by decide +kernel
theorem d_Mo_isName_0 : decode b_Mo_isName 0 = .ok (.iload_n 0, 1) := by decide +kernel
theorem d_Mo_isName_1 : decode b_Mo_isName 1 = .ok (.invokestatic 135, 3) := by decide +kernel
theorem d_Mo_isName_4 : decode b_Mo_isName 4 = .ok (.bipush 97, 2) := by decide +kernel
theorem d_Mo_isName_6 : decode b_Mo_isName 6 = .ok (.if_icmp .lt 12, 3) := by decide +kernel
theorem d_Mo_isName_9 : decode b_Mo_isName 9 = .ok (.iload_n 0, 1) := by decide +kernel
theorem d_Mo_isName_10 : decode b_Mo_isName 10 = .ok (.invokestatic 135, 3) := by decide +kernel
theorem d_Mo_isName_13 : decode b_Mo_isName 13 = .ok (.bipush 122, 2) := by decide +kernel
theorem d_Mo_isName_15 : decode b_Mo_isName 15 = .ok (.if_icmp .le 21, 3) := by decide +kernel
theorem d_Mo_isName_18 : decode b_Mo_isName 18 = .ok (.iload_n 0, 1) := by decide +kernel
theorem d_Mo_isName_19 : decode b_Mo_isName 19 = .ok (.bipush 48, 2) := by decide +kernel
theorem d_Mo_isName_21 : decode b_Mo_isName 21 = .ok (.if_icmp .lt 9, 3) := by decide +kernel
theorem d_Mo_isName_24 : decode b_Mo_isName 24 = .ok (.iload_n 0, 1) := by decide +kernel
theorem d_Mo_isName_25 : decode b_Mo_isName 25 = .ok (.bipush 57, 2) := by decide +kernel
theorem d_Mo_isName_27 : decode b_Mo_isName 27 = .ok (.if_icmp .le 9, 3) := by decide +kernel
theorem d_Mo_isName_30 : decode b_Mo_isName 30 = .ok (.iload_n 0, 1) := by decide +kernel
theorem d_Mo_isName_31 : decode b_Mo_isName 31 = .ok (.bipush 45, 2) := by decide +kernel
theorem d_Mo_isName_33 : decode b_Mo_isName 33 = .ok (.if_icmp .ne 7, 3) := by decide +kernel
theorem d_Mo_isName_36 : decode b_Mo_isName 36 = .ok (.iconst 1, 1) := by decide +kernel
theorem d_Mo_isName_37 : decode b_Mo_isName 37 = .ok (.goto 4, 3) := by decide +kernel
theorem d_Mo_isName_40 : decode b_Mo_isName 40 = .ok (.iconst 0, 1) := by decide +kernel
theorem d_Mo_isName_41 : decode b_Mo_isName 41 = .ok (.ireturn, 1) := by decide +kernel
theorem d_Mo_split_0 : decode b_Mo_split 0 = .ok (.aload_n 0, 1) := by decide +kernel
theorem d_Mo_split_1 : decode b_Mo_split 1 = .ok (.iconst 0, 1) := by decide +kernel
theorem d_Mo_split_2 : decode b_Mo_split 2 = .ok (.putfield 139, 3) := by decide +kernel
theorem d_Mo_split_5 : decode b_Mo_split 5 = .ok (.iconst 0, 1) := by decide +kernel
theorem d_Mo_split_6 : decode b_Mo_split 6 = .ok (.istore_n 1, 1) := by decide +kernel
theorem d_Mo_split_7 : decode b_Mo_split 7 = .ok (.iload_n 1, 1) := by decide +kernel
theorem d_Mo_split_8 : decode b_Mo_split 8 = .ok (.aload_n 0, 1) := by decide +kernel
theorem d_Mo_split_9 : decode b_Mo_split 9 = .ok (.getfield 143, 3) := by decide +kernel
theorem d_Mo_split_12 : decode b_Mo_split 12 = .ok (.if_icmp .ge 99, 3) := by decide +kernel
theorem d_Mo_split_15 : decode b_Mo_split 15 = .ok (.iload_n 1, 1) := by decide +kernel
theorem d_Mo_split_16 : decode b_Mo_split 16 = .ok (.istore_n 2, 1) := by decide +kernel
theorem d_Mo_split_17 : decode b_Mo_split 17 = .ok (.iload_n 2, 1) := by decide +kernel
theorem d_Mo_split_18 : decode b_Mo_split 18 = .ok (.aload_n 0, 1) := by decide +kernel
theorem d_Mo_split_19 : decode b_Mo_split 19 = .ok (.getfield 143, 3) := by decide +kernel
theorem d_Mo_split_22 : decode b_Mo_split 22 = .ok (.if_icmp .ge 20, 3) := by decide +kernel
theorem d_Mo_split_25 : decode b_Mo_split 25 = .ok (.aload_n 0, 1) := by decide +kernel
theorem d_Mo_split_26 : decode b_Mo_split 26 = .ok (.getfield 68, 3) := by decide +kernel
theorem d_Mo_split_29 : decode b_Mo_split 29 = .ok (.iload_n 2, 1) := by decide +kernel
theorem d_Mo_split_30 : decode b_Mo_split 30 = .ok (.baload, 1) := by decide +kernel
theorem d_Mo_split_31 : decode b_Mo_split 31 = .ok (.bipush 10, 2) := by decide +kernel
theorem d_Mo_split_33 : decode b_Mo_split 33 = .ok (.if_icmp .eq 9, 3) := by decide +kernel
theorem d_Mo_split_36 : decode b_Mo_split 36 = .ok (.iinc 2 1, 3) := by decide +kernel
theorem d_Mo_split_39 : decode b_Mo_split 39 = .ok (.goto (-22), 3) := by decide +kernel
theorem d_Mo_split_42 : decode b_Mo_split 42 = .ok (.aload_n 0, 1) := by decide +kernel
theorem d_Mo_split_43 : decode b_Mo_split 43 = .ok (.getfield 71, 3) := by decide +kernel
theorem d_Mo_split_46 : decode b_Mo_split 46 = .ok (.aload_n 0, 1) := by decide +kernel
theorem d_Mo_split_47 : decode b_Mo_split 47 = .ok (.getfield 139, 3) := by decide +kernel
theorem d_Mo_split_50 : decode b_Mo_split 50 = .ok (.iload_n 1, 1) := by decide +kernel
theorem d_Mo_split_51 : decode b_Mo_split 51 = .ok (.iastore, 1) := by decide +kernel
theorem d_Mo_split_52 : decode b_Mo_split 52 = .ok (.aload_n 0, 1) := by decide +kernel
theorem d_Mo_split_53 : decode b_Mo_split 53 = .ok (.getfield 74, 3) := by decide +kernel
theorem d_Mo_split_56 : decode b_Mo_split 56 = .ok (.aload_n 0, 1) := by decide +kernel
theorem d_Mo_split_57 : decode b_Mo_split 57 = .ok (.getfield 139, 3) := by decide +kernel
theorem d_Mo_split_60 : decode b_Mo_split 60 = .ok (.iload_n 2, 1) := by decide +kernel
theorem d_Mo_split_61 : decode b_Mo_split 61 = .ok (.aload_n 0, 1) := by decide +kernel
theorem d_Mo_split_62 : decode b_Mo_split 62 = .ok (.getfield 143, 3) := by decide +kernel
theorem d_Mo_split_65 : decode b_Mo_split 65 = .ok (.if_icmp .ge 27, 3) := by decide +kernel
theorem d_Mo_split_68 : decode b_Mo_split 68 = .ok (.iload_n 2, 1) := by decide +kernel
theorem d_Mo_split_69 : decode b_Mo_split 69 = .ok (.iload_n 1, 1) := by decide +kernel
theorem d_Mo_split_70 : decode b_Mo_split 70 = .ok (.if_icmp .le 22, 3) := by decide +kernel
theorem d_Mo_split_73 : decode b_Mo_split 73 = .ok (.aload_n 0, 1) := by decide +kernel
theorem d_Mo_split_74 : decode b_Mo_split 74 = .ok (.getfield 68, 3) := by decide +kernel
theorem d_Mo_split_77 : decode b_Mo_split 77 = .ok (.iload_n 2, 1) := by decide +kernel
theorem d_Mo_split_78 : decode b_Mo_split 78 = .ok (.iconst 1, 1) := by decide +kernel
theorem d_Mo_split_79 : decode b_Mo_split 79 = .ok (.isub, 1) := by decide +kernel
theorem d_Mo_split_80 : decode b_Mo_split 80 = .ok (.baload, 1) := by decide +kernel
theorem d_Mo_split_81 : decode b_Mo_split 81 = .ok (.bipush 13, 2) := by decide +kernel
theorem d_Mo_split_83 : decode b_Mo_split 83 = .ok (.if_icmp .ne 9, 3) := by decide +kernel
theorem d_Mo_split_86 : decode b_Mo_split 86 = .ok (.iload_n 2, 1) := by decide +kernel
theorem d_Mo_split_87 : decode b_Mo_split 87 = .ok (.iconst 1, 1) := by decide +kernel
theorem d_Mo_split_88 : decode b_Mo_split 88 = .ok (.isub, 1) := by decide +kernel
theorem d_Mo_split_89 : decode b_Mo_split 89 = .ok (.goto 4, 3) := by decide +kernel
theorem d_Mo_split_92 : decode b_Mo_split 92 = .ok (.iload_n 2, 1) := by decide +kernel
theorem d_Mo_split_93 : decode b_Mo_split 93 = .ok (.iastore, 1) := by decide +kernel
theorem d_Mo_split_94 : decode b_Mo_split 94 = .ok (.aload_n 0, 1) := by decide +kernel
theorem d_Mo_split_95 : decode b_Mo_split 95 = .ok (.dup, 1) := by decide +kernel
theorem d_Mo_split_96 : decode b_Mo_split 96 = .ok (.getfield 139, 3) := by decide +kernel
theorem d_Mo_split_99 : decode b_Mo_split 99 = .ok (.iconst 1, 1) := by decide +kernel
theorem d_Mo_split_100 : decode b_Mo_split 100 = .ok (.iadd, 1) := by decide +kernel
theorem d_Mo_split_101 : decode b_Mo_split 101 = .ok (.putfield 139, 3) := by decide +kernel
theorem d_Mo_split_104 : decode b_Mo_split 104 = .ok (.iload_n 2, 1) := by decide +kernel
theorem d_Mo_split_105 : decode b_Mo_split 105 = .ok (.iconst 1, 1) := by decide +kernel
theorem d_Mo_split_106 : decode b_Mo_split 106 = .ok (.iadd, 1) := by decide +kernel
theorem d_Mo_split_107 : decode b_Mo_split 107 = .ok (.istore_n 1, 1) := by decide +kernel
theorem d_Mo_split_108 : decode b_Mo_split 108 = .ok (.goto (-101), 3) := by decide +kernel
theorem d_Mo_split_111 : decode b_Mo_split 111 = .ok (.return_, 1) := by decide +kernel
theorem d_Mo_colon_0 : decode b_Mo_colon 0 = .ok (.aload_n 0, 1) := by decide +kernel
theorem d_Mo_colon_1 : decode b_Mo_colon 1 = .ok (.getfield 71, 3) := by decide +kernel
theorem d_Mo_colon_4 : decode b_Mo_colon 4 = .ok (.iload_n 1, 1) := by decide +kernel
theorem d_Mo_colon_5 : decode b_Mo_colon 5 = .ok (.iaload, 1) := by decide +kernel
theorem d_Mo_colon_6 : decode b_Mo_colon 6 = .ok (.istore_n 2, 1) := by decide +kernel
theorem d_Mo_colon_7 : decode b_Mo_colon 7 = .ok (.iload_n 2, 1) := by decide +kernel
theorem d_Mo_colon_8 : decode b_Mo_colon 8 = .ok (.aload_n 0, 1) := by decide +kernel
theorem d_Mo_colon_9 : decode b_Mo_colon 9 = .ok (.getfield 74, 3) := by decide +kernel
theorem d_Mo_colon_12 : decode b_Mo_colon 12 = .ok (.iload_n 1, 1) := by decide +kernel
theorem d_Mo_colon_13 : decode b_Mo_colon 13 = .ok (.iaload, 1) := by decide +kernel
theorem d_Mo_colon_14 : decode b_Mo_colon 14 = .ok (.if_icmp .ge 21, 3) := by decide +kernel
theorem d_Mo_colon_17 : decode b_Mo_colon 17 = .ok (.aload_n 0, 1) := by decide +kernel
theorem d_Mo_colon_18 : decode b_Mo_colon 18 = .ok (.getfield 68, 3) := by decide +kernel
theorem d_Mo_colon_21 : decode b_Mo_colon 21 = .ok (.iload_n 2, 1) := by decide +kernel
theorem d_Mo_colon_22 : decode b_Mo_colon 22 = .ok (.baload, 1) := by decide +kernel
theorem d_Mo_colon_23 : decode b_Mo_colon 23 = .ok (.invokestatic 146, 3) := by decide +kernel
theorem d_Mo_colon_26 : decode b_Mo_colon 26 = .ok (.ifCond .eq 9, 3) := by decide +kernel
theorem d_Mo_colon_29 : decode b_Mo_colon 29 = .ok (.iinc 2 1, 3) := by decide +kernel
theorem d_Mo_colon_32 : decode b_Mo_colon 32 = .ok (.goto (-25), 3) := by decide +kernel
theorem d_Mo_colon_35 : decode b_Mo_colon 35 = .ok (.iload_n 2, 1) := by decide +kernel
theorem d_Mo_colon_36 : decode b_Mo_colon 36 = .ok (.aload_n 0, 1) := by decide +kernel
theorem d_Mo_colon_37 : decode b_Mo_colon 37 = .ok (.getfield 71, 3) := by decide +kernel
theorem d_Mo_colon_40 : decode b_Mo_colon 40 = .ok (.iload_n 1, 1) := by decide +kernel
theorem d_Mo_colon_41 : decode b_Mo_colon 41 = .ok (.iaload, 1) := by decide +kernel
theorem d_Mo_colon_42 : decode b_Mo_colon 42 = .ok (.if_icmp .le 28, 3) := by decide +kernel
theorem d_Mo_colon_45 : decode b_Mo_colon 45 = .ok (.iload_n 2, 1) := by decide +kernel
theorem d_Mo_colon_46 : decode b_Mo_colon 46 = .ok (.aload_n 0, 1) := by decide +kernel
theorem d_Mo_colon_47 : decode b_Mo_colon 47 = .ok (.getfield 74, 3) := by decide +kernel
theorem d_Mo_colon_50 : decode b_Mo_colon 50 = .ok (.iload_n 1, 1) := by decide +kernel
theorem d_Mo_colon_51 : decode b_Mo_colon 51 = .ok (.iaload, 1) := by decide +kernel
theorem d_Mo_colon_52 : decode b_Mo_colon 52 = .ok (.if_icmp .ge 18, 3) := by decide +kernel
theorem d_Mo_colon_55 : decode b_Mo_colon 55 = .ok (.aload_n 0, 1) := by decide +kernel
theorem d_Mo_colon_56 : decode b_Mo_colon 56 = .ok (.getfield 68, 3) := by decide +kernel
theorem d_Mo_colon_59 : decode b_Mo_colon 59 = .ok (.iload_n 2, 1) := by decide +kernel
theorem d_Mo_colon_60 : decode b_Mo_colon 60 = .ok (.baload, 1) := by decide +kernel
theorem d_Mo_colon_61 : decode b_Mo_colon 61 = .ok (.bipush 58, 2) := by decide +kernel
theorem d_Mo_colon_63 : decode b_Mo_colon 63 = .ok (.if_icmp .ne 7, 3) := by decide +kernel
theorem d_Mo_colon_66 : decode b_Mo_colon 66 = .ok (.iload_n 2, 1) := by decide +kernel
theorem d_Mo_colon_67 : decode b_Mo_colon 67 = .ok (.goto 4, 3) := by decide +kernel
theorem d_Mo_colon_70 : decode b_Mo_colon 70 = .ok (.iconst (-1), 1) := by decide +kernel
theorem d_Mo_colon_71 : decode b_Mo_colon 71 = .ok (.ireturn, 1) := by decide +kernel
theorem d_Mo_findHead_0 : decode b_Mo_findHead 0 = .ok (.aload_n 0, 1) := by decide +kernel
theorem d_Mo_findHead_1 : decode b_Mo_findHead 1 = .ok (.getfield 77, 3) := by decide +kernel
theorem d_Mo_findHead_4 : decode b_Mo_findHead 4 = .ok (.iload_n 1, 1) := by decide +kernel
theorem d_Mo_findHead_5 : decode b_Mo_findHead 5 = .ok (.iaload, 1) := by decide +kernel
theorem d_Mo_findHead_6 : decode b_Mo_findHead 6 = .ok (.istore_n 2, 1) := by decide +kernel
theorem d_Mo_findHead_7 : decode b_Mo_findHead 7 = .ok (.iconst 0, 1) := by decide +kernel
theorem d_Mo_findHead_8 : decode b_Mo_findHead 8 = .ok (.istore_n 3, 1) := by decide +kernel
theorem d_Mo_findHead_9 : decode b_Mo_findHead 9 = .ok (.iconst 1, 1) := by decide +kernel
theorem d_Mo_findHead_10 : decode b_Mo_findHead 10 = .ok (.istore 4, 2) := by decide +kernel
theorem d_Mo_findHead_12 : decode b_Mo_findHead 12 = .ok (.iload_n 2, 1) := by decide +kernel
theorem d_Mo_findHead_13 : decode b_Mo_findHead 13 = .ok (.aload_n 0, 1) := by decide +kernel
theorem d_Mo_findHead_14 : decode b_Mo_findHead 14 = .ok (.getfield 80, 3) := by decide +kernel
theorem d_Mo_findHead_17 : decode b_Mo_findHead 17 = .ok (.iload_n 1, 1) := by decide +kernel
theorem d_Mo_findHead_18 : decode b_Mo_findHead 18 = .ok (.iaload, 1) := by decide +kernel
theorem d_Mo_findHead_19 : decode b_Mo_findHead 19 = .ok (.if_icmp .ge 103, 3) := by decide +kernel
theorem d_Mo_findHead_22 : decode b_Mo_findHead 22 = .ok (.iload 4, 2) := by decide +kernel
theorem d_Mo_findHead_24 : decode b_Mo_findHead 24 = .ok (.ifCond .eq 98, 3) := by decide +kernel
theorem d_Mo_findHead_27 : decode b_Mo_findHead 27 = .ok (.aload_n 0, 1) := by decide +kernel
theorem d_Mo_findHead_28 : decode b_Mo_findHead 28 = .ok (.iload_n 2, 1) := by decide +kernel
theorem d_Mo_findHead_29 : decode b_Mo_findHead 29 = .ok (.invokevirtual 150, 3) := by decide +kernel
theorem d_Mo_findHead_32 : decode b_Mo_findHead 32 = .ok (.iconst (-1), 1) := by decide +kernel
theorem d_Mo_findHead_33 : decode b_Mo_findHead 33 = .ok (.if_icmp .eq 7, 3) := by decide +kernel
theorem d_Mo_findHead_36 : decode b_Mo_findHead 36 = .ok (.iconst 1, 1) := by decide +kernel
theorem d_Mo_findHead_37 : decode b_Mo_findHead 37 = .ok (.goto 4, 3) := by decide +kernel
theorem d_Mo_findHead_40 : decode b_Mo_findHead 40 = .ok (.iconst 0, 1) := by decide +kernel
theorem d_Mo_findHead_41 : decode b_Mo_findHead 41 = .ok (.istore 5, 2) := by decide +kernel
theorem d_Mo_findHead_43 : decode b_Mo_findHead 43 = .ok (.iload 5, 2) := by decide +kernel
theorem d_Mo_findHead_45 : decode b_Mo_findHead 45 = .ok (.ifCond .ne 39, 3) := by decide +kernel
theorem d_Mo_findHead_48 : decode b_Mo_findHead 48 = .ok (.iload_n 3, 1) := by decide +kernel
theorem d_Mo_findHead_49 : decode b_Mo_findHead 49 = .ok (.ifCond .eq 39, 3) := by decide +kernel
theorem d_Mo_findHead_52 : decode b_Mo_findHead 52 = .ok (.aload_n 0, 1) := by decide +kernel
theorem d_Mo_findHead_53 : decode b_Mo_findHead 53 = .ok (.getfield 71, 3) := by decide +kernel
theorem d_Mo_findHead_56 : decode b_Mo_findHead 56 = .ok (.iload_n 2, 1) := by decide +kernel
theorem d_Mo_findHead_57 : decode b_Mo_findHead 57 = .ok (.iaload, 1) := by decide +kernel
theorem d_Mo_findHead_58 : decode b_Mo_findHead 58 = .ok (.aload_n 0, 1) := by decide +kernel
theorem d_Mo_findHead_59 : decode b_Mo_findHead 59 = .ok (.getfield 74, 3) := by decide +kernel
theorem d_Mo_findHead_62 : decode b_Mo_findHead 62 = .ok (.iload_n 2, 1) := by decide +kernel
theorem d_Mo_findHead_63 : decode b_Mo_findHead 63 = .ok (.iaload, 1) := by decide +kernel
theorem d_Mo_findHead_64 : decode b_Mo_findHead 64 = .ok (.if_icmp .ge 24, 3) := by decide +kernel
theorem d_Mo_findHead_67 : decode b_Mo_findHead 67 = .ok (.aload_n 0, 1) := by decide +kernel
theorem d_Mo_findHead_68 : decode b_Mo_findHead 68 = .ok (.getfield 68, 3) := by decide +kernel
theorem d_Mo_findHead_71 : decode b_Mo_findHead 71 = .ok (.aload_n 0, 1) := by decide +kernel
theorem d_Mo_findHead_72 : decode b_Mo_findHead 72 = .ok (.getfield 71, 3) := by decide +kernel
theorem d_Mo_findHead_75 : decode b_Mo_findHead 75 = .ok (.iload_n 2, 1) := by decide +kernel
theorem d_Mo_findHead_76 : decode b_Mo_findHead 76 = .ok (.iaload, 1) := by decide +kernel
theorem d_Mo_findHead_77 : decode b_Mo_findHead 77 = .ok (.baload, 1) := by decide +kernel
theorem d_Mo_findHead_78 : decode b_Mo_findHead 78 = .ok (.invokestatic 153, 3) := by decide +kernel
theorem d_Mo_findHead_81 : decode b_Mo_findHead 81 = .ok (.ifCond .eq 7, 3) := by decide +kernel
theorem d_Mo_findHead_84 : decode b_Mo_findHead 84 = .ok (.iconst 1, 1) := by decide +kernel
theorem d_Mo_findHead_85 : decode b_Mo_findHead 85 = .ok (.goto 4, 3) := by decide +kernel
theorem d_Mo_findHead_88 : decode b_Mo_findHead 88 = .ok (.iconst 0, 1) := by decide +kernel
theorem d_Mo_findHead_89 : decode b_Mo_findHead 89 = .ok (.istore 4, 2) := by decide +kernel
theorem d_Mo_findHead_91 : decode b_Mo_findHead 91 = .ok (.iload_n 3, 1) := by decide +kernel
theorem d_Mo_findHead_92 : decode b_Mo_findHead 92 = .ok (.ifCond .ne 8, 3) := by decide +kernel
theorem d_Mo_findHead_95 : decode b_Mo_findHead 95 = .ok (.iload 5, 2) := by decide +kernel
theorem d_Mo_findHead_97 : decode b_Mo_findHead 97 = .ok (.ifCond .eq 7, 3) := by decide +kernel
theorem d_Mo_findHead_100 : decode b_Mo_findHead 100 = .ok (.iconst 1, 1) := by decide +kernel
theorem d_Mo_findHead_101 : decode b_Mo_findHead 101 = .ok (.goto 4, 3) := by decide +kernel
theorem d_Mo_findHead_104 : decode b_Mo_findHead 104 = .ok (.iconst 0, 1) := by decide +kernel
theorem d_Mo_findHead_105 : decode b_Mo_findHead 105 = .ok (.istore_n 3, 1) := by decide +kernel
theorem d_Mo_findHead_106 : decode b_Mo_findHead 106 = .ok (.iload_n 2, 1) := by decide +kernel
theorem d_Mo_findHead_107 : decode b_Mo_findHead 107 = .ok (.iload 4, 2) := by decide +kernel
theorem d_Mo_findHead_109 : decode b_Mo_findHead 109 = .ok (.ifCond .eq 7, 3) := by decide +kernel
theorem d_Mo_findHead_112 : decode b_Mo_findHead 112 = .ok (.iconst 1, 1) := by decide +kernel
theorem d_Mo_findHead_113 : decode b_Mo_findHead 113 = .ok (.goto 4, 3) := by decide +kernel
theorem d_Mo_findHead_116 : decode b_Mo_findHead 116 = .ok (.iconst 0, 1) := by decide +kernel
theorem d_Mo_findHead_117 : decode b_Mo_findHead 117 = .ok (.iadd, 1) := by decide +kernel
theorem d_Mo_findHead_118 : decode b_Mo_findHead 118 = .ok (.istore_n 2, 1) := by decide +kernel
theorem d_Mo_findHead_119 : decode b_Mo_findHead 119 = .ok (.goto (-107), 3) := by decide +kernel
theorem d_Mo_findHead_122 : decode b_Mo_findHead 122 = .ok (.aload_n 0, 1) := by decide +kernel
theorem d_Mo_findHead_123 : decode b_Mo_findHead 123 = .ok (.getfield 83, 3) := by decide +kernel
theorem d_Mo_findHead_126 : decode b_Mo_findHead 126 = .ok (.iload_n 1, 1) := by decide +kernel
theorem d_Mo_findHead_127 : decode b_Mo_findHead 127 = .ok (.iload_n 2, 1) := by decide +kernel
theorem d_Mo_findHead_128 : decode b_Mo_findHead 128 = .ok (.iastore, 1) := by decide +kernel
theorem d_Mo_findHead_129 : decode b_Mo_findHead 129 = .ok (.aload_n 0, 1) := by decide +kernel
theorem d_Mo_findHead_130 : decode b_Mo_findHead 130 = .ok (.getfield 86, 3) := by decide +kernel
theorem d_Mo_findHead_133 : decode b_Mo_findHead 133 = .ok (.iload_n 1, 1) := by decide +kernel
theorem d_Mo_findHead_134 : decode b_Mo_findHead 134 = .ok (.iload_n 2, 1) := by decide +kernel
theorem d_Mo_findHead_135 : decode b_Mo_findHead 135 = .ok (.aload_n 0, 1) := by decide +kernel
theorem d_Mo_findHead_136 : decode b_Mo_findHead 136 = .ok (.getfield 80, 3) := by decide +kernel
theorem d_Mo_findHead_139 : decode b_Mo_findHead 139 = .ok (.iload_n 1, 1) := by decide +kernel
theorem d_Mo_findHead_140 : decode b_Mo_findHead 140 = .ok (.iaload, 1) := by decide +kernel
theorem d_Mo_findHead_141 : decode b_Mo_findHead 141 = .ok (.if_icmp .ge 24, 3) := by decide +kernel
theorem d_Mo_findHead_144 : decode b_Mo_findHead 144 = .ok (.aload_n 0, 1) := by decide +kernel
theorem d_Mo_findHead_145 : decode b_Mo_findHead 145 = .ok (.getfield 71, 3) := by decide +kernel
theorem d_Mo_findHead_148 : decode b_Mo_findHead 148 = .ok (.iload_n 2, 1) := by decide +kernel
theorem d_Mo_findHead_149 : decode b_Mo_findHead 149 = .ok (.iaload, 1) := by decide +kernel
theorem d_Mo_findHead_150 : decode b_Mo_findHead 150 = .ok (.aload_n 0, 1) := by decide +kernel
theorem d_Mo_findHead_151 : decode b_Mo_findHead 151 = .ok (.getfield 74, 3) := by decide +kernel
theorem d_Mo_findHead_154 : decode b_Mo_findHead 154 = .ok (.iload_n 2, 1) := by decide +kernel
theorem d_Mo_findHead_155 : decode b_Mo_findHead 155 = .ok (.iaload, 1) := by decide +kernel
theorem d_Mo_findHead_156 : decode b_Mo_findHead 156 = .ok (.if_icmp .ne 9, 3) := by decide +kernel
theorem d_Mo_findHead_159 : decode b_Mo_findHead 159 = .ok (.iload_n 2, 1) := by decide +kernel
theorem d_Mo_findHead_160 : decode b_Mo_findHead 160 = .ok (.iconst 1, 1) := by decide +kernel
theorem d_Mo_findHead_161 : decode b_Mo_findHead 161 = .ok (.iadd, 1) := by decide +kernel
theorem d_Mo_findHead_162 : decode b_Mo_findHead 162 = .ok (.goto 4, 3) := by decide +kernel
theorem d_Mo_findHead_165 : decode b_Mo_findHead 165 = .ok (.iload_n 2, 1) := by decide +kernel
theorem d_Mo_findHead_166 : decode b_Mo_findHead 166 = .ok (.iastore, 1) := by decide +kernel
theorem d_Mo_findHead_167 : decode b_Mo_findHead 167 = .ok (.return_, 1) := by decide +kernel
theorem d_Mo_isWord_0 : decode b_Mo_isWord 0 = .ok (.iload_n 2, 1) := by decide +kernel
theorem d_Mo_isWord_1 : decode b_Mo_isWord 1 = .ok (.iload_n 1, 1) := by decide +kernel
theorem d_Mo_isWord_2 : decode b_Mo_isWord 2 = .ok (.isub, 1) := by decide +kernel
theorem d_Mo_isWord_3 : decode b_Mo_isWord 3 = .ok (.iload 4, 2) := by decide +kernel
theorem d_Mo_isWord_5 : decode b_Mo_isWord 5 = .ok (.if_icmp .eq 5, 3) := by decide +kernel
theorem d_Mo_isWord_8 : decode b_Mo_isWord 8 = .ok (.iconst 0, 1) := by decide +kernel
theorem d_Mo_isWord_9 : decode b_Mo_isWord 9 = .ok (.ireturn, 1) := by decide +kernel
theorem d_Mo_isWord_10 : decode b_Mo_isWord 10 = .ok (.iconst 0, 1) := by decide +kernel
theorem d_Mo_isWord_11 : decode b_Mo_isWord 11 = .ok (.istore 5, 2) := by decide +kernel
theorem d_Mo_isWord_13 : decode b_Mo_isWord 13 = .ok (.iload 5, 2) := by decide +kernel
theorem d_Mo_isWord_15 : decode b_Mo_isWord 15 = .ok (.iload 4, 2) := by decide +kernel
theorem d_Mo_isWord_17 : decode b_Mo_isWord 17 = .ok (.if_icmp .ge 27, 3) := by decide +kernel
theorem d_Mo_isWord_20 : decode b_Mo_isWord 20 = .ok (.aload_n 0, 1) := by decide +kernel
theorem d_Mo_isWord_21 : decode b_Mo_isWord 21 = .ok (.iload_n 1, 1) := by decide +kernel
theorem d_Mo_isWord_22 : decode b_Mo_isWord 22 = .ok (.iload 5, 2) := by decide +kernel
theorem d_Mo_isWord_24 : decode b_Mo_isWord 24 = .ok (.iadd, 1) := by decide +kernel
theorem d_Mo_isWord_25 : decode b_Mo_isWord 25 = .ok (.baload, 1) := by decide +kernel
theorem d_Mo_isWord_26 : decode b_Mo_isWord 26 = .ok (.invokestatic 135, 3) := by decide +kernel
theorem d_Mo_isWord_29 : decode b_Mo_isWord 29 = .ok (.aload_n 3, 1) := by decide +kernel
theorem d_Mo_isWord_30 : decode b_Mo_isWord 30 = .ok (.iload 5, 2) := by decide +kernel
theorem d_Mo_isWord_32 : decode b_Mo_isWord 32 = .ok (.iaload, 1) := by decide +kernel
theorem d_Mo_isWord_33 : decode b_Mo_isWord 33 = .ok (.if_icmp .eq 5, 3) := by decide +kernel
theorem d_Mo_isWord_36 : decode b_Mo_isWord 36 = .ok (.iconst 0, 1) := by decide +kernel
theorem d_Mo_isWord_37 : decode b_Mo_isWord 37 = .ok (.ireturn, 1) := by decide +kernel
theorem d_Mo_isWord_38 : decode b_Mo_isWord 38 = .ok (.iinc 5 1, 3) := by decide +kernel
theorem d_Mo_isWord_41 : decode b_Mo_isWord 41 = .ok (.goto (-28), 3) := by decide +kernel
theorem d_Mo_isWord_44 : decode b_Mo_isWord 44 = .ok (.iconst 1, 1) := by decide +kernel
theorem d_Mo_isWord_45 : decode b_Mo_isWord 45 = .ok (.ireturn, 1) := by decide +kernel
theorem d_Mo_find_0 : decode b_Mo_find 0 = .ok (.aload_n 0, 1) := by decide +kernel
theorem d_Mo_find_1 : decode b_Mo_find 1 = .ok (.iconst 0, 1) := by decide +kernel
theorem d_Mo_find_2 : decode b_Mo_find 2 = .ok (.putfield 156, 3) := by decide +kernel
theorem d_Mo_find_5 : decode b_Mo_find 5 = .ok (.aload_n 0, 1) := by decide +kernel
theorem d_Mo_find_6 : decode b_Mo_find 6 = .ok (.getfield 77, 3) := by decide +kernel
theorem d_Mo_find_9 : decode b_Mo_find 9 = .ok (.iload_n 1, 1) := by decide +kernel
theorem d_Mo_find_10 : decode b_Mo_find 10 = .ok (.iaload, 1) := by decide +kernel
theorem d_Mo_find_11 : decode b_Mo_find 11 = .ok (.istore 4, 2) := by decide +kernel
theorem d_Mo_find_13 : decode b_Mo_find 13 = .ok (.iload 4, 2) := by decide +kernel
theorem d_Mo_find_15 : decode b_Mo_find 15 = .ok (.aload_n 0, 1) := by decide +kernel
theorem d_Mo_find_16 : decode b_Mo_find 16 = .ok (.getfield 83, 3) := by decide +kernel
theorem d_Mo_find_19 : decode b_Mo_find 19 = .ok (.iload_n 1, 1) := by decide +kernel
theorem d_Mo_find_20 : decode b_Mo_find 20 = .ok (.iaload, 1) := by decide +kernel
theorem d_Mo_find_21 : decode b_Mo_find 21 = .ok (.if_icmp .ge 44, 3) := by decide +kernel
theorem d_Mo_find_24 : decode b_Mo_find 24 = .ok (.aload_n 0, 1) := by decide +kernel
theorem d_Mo_find_25 : decode b_Mo_find 25 = .ok (.iload 4, 2) := by decide +kernel
theorem d_Mo_find_27 : decode b_Mo_find 27 = .ok (.invokevirtual 150, 3) := by decide +kernel
theorem d_Mo_find_30 : decode b_Mo_find 30 = .ok (.iconst (-1), 1) := by decide +kernel
theorem d_Mo_find_31 : decode b_Mo_find 31 = .ok (.if_icmp .eq 28, 3) := by decide +kernel
theorem d_Mo_find_34 : decode b_Mo_find 34 = .ok (.aload_n 0, 1) := by decide +kernel
theorem d_Mo_find_35 : decode b_Mo_find 35 = .ok (.getfield 68, 3) := by decide +kernel
theorem d_Mo_find_38 : decode b_Mo_find 38 = .ok (.aload_n 0, 1) := by decide +kernel
theorem d_Mo_find_39 : decode b_Mo_find 39 = .ok (.getfield 71, 3) := by decide +kernel
theorem d_Mo_find_42 : decode b_Mo_find 42 = .ok (.iload 4, 2) := by decide +kernel
theorem d_Mo_find_44 : decode b_Mo_find 44 = .ok (.iaload, 1) := by decide +kernel
theorem d_Mo_find_45 : decode b_Mo_find 45 = .ok (.aload_n 0, 1) := by decide +kernel
theorem d_Mo_find_46 : decode b_Mo_find 46 = .ok (.iload 4, 2) := by decide +kernel
theorem d_Mo_find_48 : decode b_Mo_find 48 = .ok (.invokevirtual 150, 3) := by decide +kernel
theorem d_Mo_find_51 : decode b_Mo_find 51 = .ok (.aload_n 2, 1) := by decide +kernel
theorem d_Mo_find_52 : decode b_Mo_find 52 = .ok (.iload_n 3, 1) := by decide +kernel
theorem d_Mo_find_53 : decode b_Mo_find 53 = .ok (.invokestatic 159, 3) := by decide +kernel
theorem d_Mo_find_56 : decode b_Mo_find 56 = .ok (.ifCond .ne 9, 3) := by decide +kernel
theorem d_Mo_find_59 : decode b_Mo_find 59 = .ok (.iinc 4 1, 3) := by decide +kernel
theorem d_Mo_find_62 : decode b_Mo_find 62 = .ok (.goto (-49), 3) := by decide +kernel
theorem d_Mo_find_65 : decode b_Mo_find 65 = .ok (.iload 4, 2) := by decide +kernel
theorem d_Mo_find_67 : decode b_Mo_find 67 = .ok (.aload_n 0, 1) := by decide +kernel
theorem d_Mo_find_68 : decode b_Mo_find 68 = .ok (.getfield 83, 3) := by decide +kernel
theorem d_Mo_find_71 : decode b_Mo_find 71 = .ok (.iload_n 1, 1) := by decide +kernel
theorem d_Mo_find_72 : decode b_Mo_find 72 = .ok (.iaload, 1) := by decide +kernel
theorem d_Mo_find_73 : decode b_Mo_find 73 = .ok (.if_icmp .lt 5, 3) := by decide +kernel
theorem d_Mo_find_76 : decode b_Mo_find 76 = .ok (.iconst 0, 1) := by decide +kernel
theorem d_Mo_find_77 : decode b_Mo_find 77 = .ok (.ireturn, 1) := by decide +kernel
theorem d_Mo_find_78 : decode b_Mo_find 78 = .ok (.aload_n 0, 1) := by decide +kernel
theorem d_Mo_find_79 : decode b_Mo_find 79 = .ok (.iload 4, 2) := by decide +kernel
theorem d_Mo_find_81 : decode b_Mo_find 81 = .ok (.invokevirtual 150, 3) := by decide +kernel
theorem d_Mo_find_84 : decode b_Mo_find 84 = .ok (.iconst 1, 1) := by decide +kernel
theorem d_Mo_find_85 : decode b_Mo_find 85 = .ok (.iadd, 1) := by decide +kernel
theorem d_Mo_find_86 : decode b_Mo_find 86 = .ok (.istore 5, 2) := by decide +kernel
theorem d_Mo_find_88 : decode b_Mo_find 88 = .ok (.iconst 1, 1) := by decide +kernel
theorem d_Mo_find_89 : decode b_Mo_find 89 = .ok (.istore 6, 2) := by decide +kernel
theorem d_Mo_find_91 : decode b_Mo_find 91 = .ok (.iload 6, 2) := by decide +kernel
theorem d_Mo_find_93 : decode b_Mo_find 93 = .ok (.ifCond .eq 99, 3) := by decide +kernel
theorem d_Mo_find_96 : decode b_Mo_find 96 = .ok (.iload 5, 2) := by decide +kernel
theorem d_Mo_find_98 : decode b_Mo_find 98 = .ok (.aload_n 0, 1) := by decide +kernel
theorem d_Mo_find_99 : decode b_Mo_find 99 = .ok (.getfield 74, 3) := by decide +kernel
theorem d_Mo_find_102 : decode b_Mo_find 102 = .ok (.iload 4, 2) := by decide +kernel
theorem d_Mo_find_104 : decode b_Mo_find 104 = .ok (.iaload, 1) := by decide +kernel
theorem d_Mo_find_105 : decode b_Mo_find 105 = .ok (.if_icmp .ge 35, 3) := by decide +kernel
theorem d_Mo_find_108 : decode b_Mo_find 108 = .ok (.aload_n 0, 1) := by decide +kernel
theorem d_Mo_find_109 : decode b_Mo_find 109 = .ok (.getfield 117, 3) := by decide +kernel
theorem d_Mo_find_112 : decode b_Mo_find 112 = .ok (.aload_n 0, 1) := by decide +kernel
theorem d_Mo_find_113 : decode b_Mo_find 113 = .ok (.getfield 156, 3) := by decide +kernel
theorem d_Mo_find_116 : decode b_Mo_find 116 = .ok (.aload_n 0, 1) := by decide +kernel
theorem d_Mo_find_117 : decode b_Mo_find 117 = .ok (.getfield 68, 3) := by decide +kernel
theorem d_Mo_find_120 : decode b_Mo_find 120 = .ok (.iload 5, 2) := by decide +kernel
theorem d_Mo_find_122 : decode b_Mo_find 122 = .ok (.baload, 1) := by decide +kernel
theorem d_Mo_find_123 : decode b_Mo_find 123 = .ok (.bastore, 1) := by decide +kernel
theorem d_Mo_find_124 : decode b_Mo_find 124 = .ok (.aload_n 0, 1) := by decide +kernel
theorem d_Mo_find_125 : decode b_Mo_find 125 = .ok (.dup, 1) := by decide +kernel
theorem d_Mo_find_126 : decode b_Mo_find 126 = .ok (.getfield 156, 3) := by decide +kernel
theorem d_Mo_find_129 : decode b_Mo_find 129 = .ok (.iconst 1, 1) := by decide +kernel
theorem d_Mo_find_130 : decode b_Mo_find 130 = .ok (.iadd, 1) := by decide +kernel
theorem d_Mo_find_131 : decode b_Mo_find 131 = .ok (.putfield 156, 3) := by decide +kernel
theorem d_Mo_find_134 : decode b_Mo_find 134 = .ok (.iinc 5 1, 3) := by decide +kernel
theorem d_Mo_find_137 : decode b_Mo_find 137 = .ok (.goto (-41), 3) := by decide +kernel
theorem d_Mo_find_140 : decode b_Mo_find 140 = .ok (.iinc 4 1, 3) := by decide +kernel
theorem d_Mo_find_143 : decode b_Mo_find 143 = .ok (.iload 4, 2) := by decide +kernel
theorem d_Mo_find_145 : decode b_Mo_find 145 = .ok (.aload_n 0, 1) := by decide +kernel
theorem d_Mo_find_146 : decode b_Mo_find 146 = .ok (.getfield 83, 3) := by decide +kernel
theorem d_Mo_find_149 : decode b_Mo_find 149 = .ok (.iload_n 1, 1) := by decide +kernel
theorem d_Mo_find_150 : decode b_Mo_find 150 = .ok (.iaload, 1) := by decide +kernel
theorem d_Mo_find_151 : decode b_Mo_find 151 = .ok (.if_icmp .ge 17, 3) := by decide +kernel
theorem d_Mo_find_154 : decode b_Mo_find 154 = .ok (.aload_n 0, 1) := by decide +kernel
theorem d_Mo_find_155 : decode b_Mo_find 155 = .ok (.iload 4, 2) := by decide +kernel
theorem d_Mo_find_157 : decode b_Mo_find 157 = .ok (.invokevirtual 150, 3) := by decide +kernel
theorem d_Mo_find_160 : decode b_Mo_find 160 = .ok (.iconst (-1), 1) := by decide +kernel
theorem d_Mo_find_161 : decode b_Mo_find 161 = .ok (.if_icmp .ne 7, 3) := by decide +kernel
theorem d_Mo_find_164 : decode b_Mo_find 164 = .ok (.iconst 1, 1) := by decide +kernel
theorem d_Mo_find_165 : decode b_Mo_find 165 = .ok (.goto 4, 3) := by decide +kernel
theorem d_Mo_find_168 : decode b_Mo_find 168 = .ok (.iconst 0, 1) := by decide +kernel
theorem d_Mo_find_169 : decode b_Mo_find 169 = .ok (.istore 6, 2) := by decide +kernel
theorem d_Mo_find_171 : decode b_Mo_find 171 = .ok (.iload 6, 2) := by decide +kernel
theorem d_Mo_find_173 : decode b_Mo_find 173 = .ok (.ifCond .eq 13, 3) := by decide +kernel
theorem d_Mo_find_176 : decode b_Mo_find 176 = .ok (.aload_n 0, 1) := by decide +kernel
theorem d_Mo_find_177 : decode b_Mo_find 177 = .ok (.getfield 71, 3) := by decide +kernel
theorem d_Mo_find_180 : decode b_Mo_find 180 = .ok (.iload 4, 2) := by decide +kernel
theorem d_Mo_find_182 : decode b_Mo_find 182 = .ok (.iaload, 1) := by decide +kernel
theorem d_Mo_find_183 : decode b_Mo_find 183 = .ok (.goto 4, 3) := by decide +kernel
theorem d_Mo_find_186 : decode b_Mo_find 186 = .ok (.iconst 0, 1) := by decide +kernel
theorem d_Mo_find_187 : decode b_Mo_find 187 = .ok (.istore 5, 2) := by decide +kernel
theorem d_Mo_find_189 : decode b_Mo_find 189 = .ok (.goto (-98), 3) := by decide +kernel
theorem d_Mo_find_192 : decode b_Mo_find 192 = .ok (.iconst 1, 1) := by decide +kernel
theorem d_Mo_find_193 : decode b_Mo_find 193 = .ok (.ireturn, 1) := by decide +kernel
theorem d_Mo_trim_0 : decode b_Mo_trim 0 = .ok (.aload_n 0, 1) := by decide +kernel
theorem d_Mo_trim_1 : decode b_Mo_trim 1 = .ok (.iload_n 1, 1) := by decide +kernel
theorem d_Mo_trim_2 : decode b_Mo_trim 2 = .ok (.putfield 163, 3) := by decide +kernel
theorem d_Mo_trim_5 : decode b_Mo_trim 5 = .ok (.aload_n 0, 1) := by decide +kernel
theorem d_Mo_trim_6 : decode b_Mo_trim 6 = .ok (.iload_n 2, 1) := by decide +kernel
theorem d_Mo_trim_7 : decode b_Mo_trim 7 = .ok (.putfield 166, 3) := by decide +kernel
theorem d_Mo_trim_10 : decode b_Mo_trim 10 = .ok (.aload_n 0, 1) := by decide +kernel
theorem d_Mo_trim_11 : decode b_Mo_trim 11 = .ok (.getfield 163, 3) := by decide +kernel
theorem d_Mo_trim_14 : decode b_Mo_trim 14 = .ok (.aload_n 0, 1) := by decide +kernel
theorem d_Mo_trim_15 : decode b_Mo_trim 15 = .ok (.getfield 166, 3) := by decide +kernel
theorem d_Mo_trim_18 : decode b_Mo_trim 18 = .ok (.if_icmp .ge 31, 3) := by decide +kernel
theorem d_Mo_trim_21 : decode b_Mo_trim 21 = .ok (.aload_n 0, 1) := by decide +kernel
theorem d_Mo_trim_22 : decode b_Mo_trim 22 = .ok (.getfield 117, 3) := by decide +kernel
theorem d_Mo_trim_25 : decode b_Mo_trim 25 = .ok (.aload_n 0, 1) := by decide +kernel
theorem d_Mo_trim_26 : decode b_Mo_trim 26 = .ok (.getfield 163, 3) := by decide +kernel
theorem d_Mo_trim_29 : decode b_Mo_trim 29 = .ok (.baload, 1) := by decide +kernel
theorem d_Mo_trim_30 : decode b_Mo_trim 30 = .ok (.invokestatic 153, 3) := by decide +kernel
theorem d_Mo_trim_33 : decode b_Mo_trim 33 = .ok (.ifCond .eq 16, 3) := by decide +kernel
theorem d_Mo_trim_36 : decode b_Mo_trim 36 = .ok (.aload_n 0, 1) := by decide +kernel
theorem d_Mo_trim_37 : decode b_Mo_trim 37 = .ok (.dup, 1) := by decide +kernel
theorem d_Mo_trim_38 : decode b_Mo_trim 38 = .ok (.getfield 163, 3) := by decide +kernel
theorem d_Mo_trim_41 : decode b_Mo_trim 41 = .ok (.iconst 1, 1) := by decide +kernel
theorem d_Mo_trim_42 : decode b_Mo_trim 42 = .ok (.iadd, 1) := by decide +kernel
theorem d_Mo_trim_43 : decode b_Mo_trim 43 = .ok (.putfield 163, 3) := by decide +kernel
theorem d_Mo_trim_46 : decode b_Mo_trim 46 = .ok (.goto (-36), 3) := by decide +kernel
theorem d_Mo_trim_49 : decode b_Mo_trim 49 = .ok (.aload_n 0, 1) := by decide +kernel
theorem d_Mo_trim_50 : decode b_Mo_trim 50 = .ok (.getfield 163, 3) := by decide +kernel
theorem d_Mo_trim_53 : decode b_Mo_trim 53 = .ok (.aload_n 0, 1) := by decide +kernel
theorem d_Mo_trim_54 : decode b_Mo_trim 54 = .ok (.getfield 166, 3) := by decide +kernel
theorem d_Mo_trim_57 : decode b_Mo_trim 57 = .ok (.if_icmp .ge 33, 3) := by decide +kernel
theorem d_Mo_trim_60 : decode b_Mo_trim 60 = .ok (.aload_n 0, 1) := by decide +kernel
theorem d_Mo_trim_61 : decode b_Mo_trim 61 = .ok (.getfield 117, 3) := by decide +kernel
theorem d_Mo_trim_64 : decode b_Mo_trim 64 = .ok (.aload_n 0, 1) := by decide +kernel
theorem d_Mo_trim_65 : decode b_Mo_trim 65 = .ok (.getfield 166, 3) := by decide +kernel
theorem d_Mo_trim_68 : decode b_Mo_trim 68 = .ok (.iconst 1, 1) := by decide +kernel
theorem d_Mo_trim_69 : decode b_Mo_trim 69 = .ok (.isub, 1) := by decide +kernel
theorem d_Mo_trim_70 : decode b_Mo_trim 70 = .ok (.baload, 1) := by decide +kernel
theorem d_Mo_trim_71 : decode b_Mo_trim 71 = .ok (.invokestatic 153, 3) := by decide +kernel
theorem d_Mo_trim_74 : decode b_Mo_trim 74 = .ok (.ifCond .eq 16, 3) := by decide +kernel
theorem d_Mo_trim_77 : decode b_Mo_trim 77 = .ok (.aload_n 0, 1) := by decide +kernel
theorem d_Mo_trim_78 : decode b_Mo_trim 78 = .ok (.dup, 1) := by decide +kernel
theorem d_Mo_trim_79 : decode b_Mo_trim 79 = .ok (.getfield 166, 3) := by decide +kernel
theorem d_Mo_trim_82 : decode b_Mo_trim 82 = .ok (.iconst 1, 1) := by decide +kernel
theorem d_Mo_trim_83 : decode b_Mo_trim 83 = .ok (.isub, 1) := by decide +kernel
theorem d_Mo_trim_84 : decode b_Mo_trim 84 = .ok (.putfield 166, 3) := by decide +kernel
theorem d_Mo_trim_87 : decode b_Mo_trim 87 = .ok (.goto (-38), 3) := by decide +kernel
theorem d_Mo_trim_90 : decode b_Mo_trim 90 = .ok (.return_, 1) := by decide +kernel
theorem d_Mo_over_0 : decode b_Mo_over 0 = .ok (.aload_n 0, 1) := by decide +kernel
theorem d_Mo_over_1 : decode b_Mo_over 1 = .ok (.getfield 117, 3) := by decide +kernel
theorem d_Mo_over_4 : decode b_Mo_over 4 = .ok (.iload_n 1, 1) := by decide +kernel
theorem d_Mo_over_5 : decode b_Mo_over 5 = .ok (.baload, 1) := by decide +kernel
theorem d_Mo_over_6 : decode b_Mo_over 6 = .ok (.bipush 34, 2) := by decide +kernel
theorem d_Mo_over_8 : decode b_Mo_over 8 = .ok (.if_icmp .eq 7, 3) := by decide +kernel
theorem d_Mo_over_11 : decode b_Mo_over 11 = .ok (.iload_n 1, 1) := by decide +kernel
theorem d_Mo_over_12 : decode b_Mo_over 12 = .ok (.iconst 1, 1) := by decide +kernel
theorem d_Mo_over_13 : decode b_Mo_over 13 = .ok (.iadd, 1) := by decide +kernel
theorem d_Mo_over_14 : decode b_Mo_over 14 = .ok (.ireturn, 1) := by decide +kernel
theorem d_Mo_over_15 : decode b_Mo_over 15 = .ok (.iload_n 1, 1) := by decide +kernel
theorem d_Mo_over_16 : decode b_Mo_over 16 = .ok (.iconst 1, 1) := by decide +kernel
theorem d_Mo_over_17 : decode b_Mo_over 17 = .ok (.iadd, 1) := by decide +kernel
theorem d_Mo_over_18 : decode b_Mo_over 18 = .ok (.istore_n 3, 1) := by decide +kernel
theorem d_Mo_over_19 : decode b_Mo_over 19 = .ok (.iload_n 3, 1) := by decide +kernel
theorem d_Mo_over_20 : decode b_Mo_over 20 = .ok (.iload_n 2, 1) := by decide +kernel
theorem d_Mo_over_21 : decode b_Mo_over 21 = .ok (.if_icmp .ge 36, 3) := by decide +kernel
theorem d_Mo_over_24 : decode b_Mo_over 24 = .ok (.aload_n 0, 1) := by decide +kernel
theorem d_Mo_over_25 : decode b_Mo_over 25 = .ok (.getfield 117, 3) := by decide +kernel
theorem d_Mo_over_28 : decode b_Mo_over 28 = .ok (.iload_n 3, 1) := by decide +kernel
theorem d_Mo_over_29 : decode b_Mo_over 29 = .ok (.baload, 1) := by decide +kernel
theorem d_Mo_over_30 : decode b_Mo_over 30 = .ok (.bipush 34, 2) := by decide +kernel
theorem d_Mo_over_32 : decode b_Mo_over 32 = .ok (.if_icmp .eq 25, 3) := by decide +kernel
theorem d_Mo_over_35 : decode b_Mo_over 35 = .ok (.iload_n 3, 1) := by decide +kernel
theorem d_Mo_over_36 : decode b_Mo_over 36 = .ok (.aload_n 0, 1) := by decide +kernel
theorem d_Mo_over_37 : decode b_Mo_over 37 = .ok (.getfield 117, 3) := by decide +kernel
theorem d_Mo_over_40 : decode b_Mo_over 40 = .ok (.iload_n 3, 1) := by decide +kernel
theorem d_Mo_over_41 : decode b_Mo_over 41 = .ok (.baload, 1) := by decide +kernel
theorem d_Mo_over_42 : decode b_Mo_over 42 = .ok (.bipush 92, 2) := by decide +kernel
theorem d_Mo_over_44 : decode b_Mo_over 44 = .ok (.if_icmp .ne 7, 3) := by decide +kernel
theorem d_Mo_over_47 : decode b_Mo_over 47 = .ok (.iconst 2, 1) := by decide +kernel
theorem d_Mo_over_48 : decode b_Mo_over 48 = .ok (.goto 4, 3) := by decide +kernel
theorem d_Mo_over_51 : decode b_Mo_over 51 = .ok (.iconst 1, 1) := by decide +kernel
theorem d_Mo_over_52 : decode b_Mo_over 52 = .ok (.iadd, 1) := by decide +kernel
theorem d_Mo_over_53 : decode b_Mo_over 53 = .ok (.istore_n 3, 1) := by decide +kernel
theorem d_Mo_over_54 : decode b_Mo_over 54 = .ok (.goto (-35), 3) := by decide +kernel
theorem d_Mo_over_57 : decode b_Mo_over 57 = .ok (.iload_n 3, 1) := by decide +kernel
theorem d_Mo_over_58 : decode b_Mo_over 58 = .ok (.iload_n 2, 1) := by decide +kernel
theorem d_Mo_over_59 : decode b_Mo_over 59 = .ok (.if_icmp .ge 9, 3) := by decide +kernel
theorem d_Mo_over_62 : decode b_Mo_over 62 = .ok (.iload_n 3, 1) := by decide +kernel
theorem d_Mo_over_63 : decode b_Mo_over 63 = .ok (.iconst 1, 1) := by decide +kernel
theorem d_Mo_over_64 : decode b_Mo_over 64 = .ok (.iadd, 1) := by decide +kernel
theorem d_Mo_over_65 : decode b_Mo_over 65 = .ok (.goto 4, 3) := by decide +kernel
theorem d_Mo_over_68 : decode b_Mo_over 68 = .ok (.iload_n 2, 1) := by decide +kernel
theorem d_Mo_over_69 : decode b_Mo_over 69 = .ok (.ireturn, 1) := by decide +kernel
theorem d_Mo_itemize_0 : decode b_Mo_itemize 0 = .ok (.aload_n 0, 1) := by decide +kernel
theorem d_Mo_itemize_1 : decode b_Mo_itemize 1 = .ok (.iconst 0, 1) := by decide +kernel
theorem d_Mo_itemize_2 : decode b_Mo_itemize 2 = .ok (.putfield 169, 3) := by decide +kernel
theorem d_Mo_itemize_5 : decode b_Mo_itemize 5 = .ok (.iconst 0, 1) := by decide +kernel
theorem d_Mo_itemize_6 : decode b_Mo_itemize 6 = .ok (.istore_n 1, 1) := by decide +kernel
theorem d_Mo_itemize_7 : decode b_Mo_itemize 7 = .ok (.iconst 0, 1) := by decide +kernel
theorem d_Mo_itemize_8 : decode b_Mo_itemize 8 = .ok (.istore_n 2, 1) := by decide +kernel
theorem d_Mo_itemize_9 : decode b_Mo_itemize 9 = .ok (.iload_n 2, 1) := by decide +kernel
theorem d_Mo_itemize_10 : decode b_Mo_itemize 10 = .ok (.aload_n 0, 1) := by decide +kernel
theorem d_Mo_itemize_11 : decode b_Mo_itemize 11 = .ok (.getfield 156, 3) := by decide +kernel
theorem d_Mo_itemize_14 : decode b_Mo_itemize 14 = .ok (.if_icmp .gt 87, 3) := by decide +kernel
theorem d_Mo_itemize_17 : decode b_Mo_itemize 17 = .ok (.iload_n 2, 1) := by decide +kernel
theorem d_Mo_itemize_18 : decode b_Mo_itemize 18 = .ok (.aload_n 0, 1) := by decide +kernel
theorem d_Mo_itemize_19 : decode b_Mo_itemize 19 = .ok (.getfield 156, 3) := by decide +kernel
theorem d_Mo_itemize_22 : decode b_Mo_itemize 22 = .ok (.if_icmp .ge 27, 3) := by decide +kernel
theorem d_Mo_itemize_25 : decode b_Mo_itemize 25 = .ok (.aload_n 0, 1) := by decide +kernel
theorem d_Mo_itemize_26 : decode b_Mo_itemize 26 = .ok (.getfield 117, 3) := by decide +kernel
theorem d_Mo_itemize_29 : decode b_Mo_itemize 29 = .ok (.iload_n 2, 1) := by decide +kernel
theorem d_Mo_itemize_30 : decode b_Mo_itemize 30 = .ok (.baload, 1) := by decide +kernel
theorem d_Mo_itemize_31 : decode b_Mo_itemize 31 = .ok (.bipush 59, 2) := by decide +kernel
theorem d_Mo_itemize_33 : decode b_Mo_itemize 33 = .ok (.if_icmp .eq 16, 3) := by decide +kernel
theorem d_Mo_itemize_36 : decode b_Mo_itemize 36 = .ok (.aload_n 0, 1) := by decide +kernel
theorem d_Mo_itemize_37 : decode b_Mo_itemize 37 = .ok (.iload_n 2, 1) := by decide +kernel
theorem d_Mo_itemize_38 : decode b_Mo_itemize 38 = .ok (.aload_n 0, 1) := by decide +kernel
theorem d_Mo_itemize_39 : decode b_Mo_itemize 39 = .ok (.getfield 156, 3) := by decide +kernel
theorem d_Mo_itemize_42 : decode b_Mo_itemize 42 = .ok (.invokevirtual 172, 3) := by decide +kernel
theorem d_Mo_itemize_45 : decode b_Mo_itemize 45 = .ok (.istore_n 2, 1) := by decide +kernel
theorem d_Mo_itemize_46 : decode b_Mo_itemize 46 = .ok (.goto (-37), 3) := by decide +kernel
theorem d_Mo_itemize_49 : decode b_Mo_itemize 49 = .ok (.aload_n 0, 1) := by decide +kernel
theorem d_Mo_itemize_50 : decode b_Mo_itemize 50 = .ok (.iload_n 1, 1) := by decide +kernel
theorem d_Mo_itemize_51 : decode b_Mo_itemize 51 = .ok (.iload_n 2, 1) := by decide +kernel
theorem d_Mo_itemize_52 : decode b_Mo_itemize 52 = .ok (.invokevirtual 176, 3) := by decide +kernel
theorem d_Mo_itemize_55 : decode b_Mo_itemize 55 = .ok (.aload_n 0, 1) := by decide +kernel
theorem d_Mo_itemize_56 : decode b_Mo_itemize 56 = .ok (.getfield 120, 3) := by decide +kernel
theorem d_Mo_itemize_59 : decode b_Mo_itemize 59 = .ok (.aload_n 0, 1) := by decide +kernel
theorem d_Mo_itemize_60 : decode b_Mo_itemize 60 = .ok (.getfield 169, 3) := by decide +kernel
theorem d_Mo_itemize_63 : decode b_Mo_itemize 63 = .ok (.aload_n 0, 1) := by decide +kernel
theorem d_Mo_itemize_64 : decode b_Mo_itemize 64 = .ok (.getfield 163, 3) := by decide +kernel
theorem d_Mo_itemize_67 : decode b_Mo_itemize 67 = .ok (.iastore, 1) := by decide +kernel
theorem d_Mo_itemize_68 : decode b_Mo_itemize 68 = .ok (.aload_n 0, 1) := by decide +kernel
theorem d_Mo_itemize_69 : decode b_Mo_itemize 69 = .ok (.getfield 123, 3) := by decide +kernel
theorem d_Mo_itemize_72 : decode b_Mo_itemize 72 = .ok (.aload_n 0, 1) := by decide +kernel
theorem d_Mo_itemize_73 : decode b_Mo_itemize 73 = .ok (.getfield 169, 3) := by decide +kernel
theorem d_Mo_itemize_76 : decode b_Mo_itemize 76 = .ok (.aload_n 0, 1) := by decide +kernel
theorem d_Mo_itemize_77 : decode b_Mo_itemize 77 = .ok (.getfield 166, 3) := by decide +kernel
theorem d_Mo_itemize_80 : decode b_Mo_itemize 80 = .ok (.iastore, 1) := by decide +kernel
theorem d_Mo_itemize_81 : decode b_Mo_itemize 81 = .ok (.aload_n 0, 1) := by decide +kernel
theorem d_Mo_itemize_82 : decode b_Mo_itemize 82 = .ok (.dup, 1) := by decide +kernel
theorem d_Mo_itemize_83 : decode b_Mo_itemize 83 = .ok (.getfield 169, 3) := by decide +kernel
theorem d_Mo_itemize_86 : decode b_Mo_itemize 86 = .ok (.iconst 1, 1) := by decide +kernel
theorem d_Mo_itemize_87 : decode b_Mo_itemize 87 = .ok (.iadd, 1) := by decide +kernel
theorem d_Mo_itemize_88 : decode b_Mo_itemize 88 = .ok (.putfield 169, 3) := by decide +kernel
theorem d_Mo_itemize_91 : decode b_Mo_itemize 91 = .ok (.iload_n 2, 1) := by decide +kernel
theorem d_Mo_itemize_92 : decode b_Mo_itemize 92 = .ok (.iconst 1, 1) := by decide +kernel
theorem d_Mo_itemize_93 : decode b_Mo_itemize 93 = .ok (.iadd, 1) := by decide +kernel
theorem d_Mo_itemize_94 : decode b_Mo_itemize 94 = .ok (.istore_n 1, 1) := by decide +kernel
theorem d_Mo_itemize_95 : decode b_Mo_itemize 95 = .ok (.iinc 2 1, 3) := by decide +kernel
theorem d_Mo_itemize_98 : decode b_Mo_itemize 98 = .ok (.goto (-89), 3) := by decide +kernel
theorem d_Mo_itemize_101 : decode b_Mo_itemize 101 = .ok (.return_, 1) := by decide +kernel
theorem d_Mo_keep_0 : decode b_Mo_keep 0 = .ok (.aload_n 0, 1) := by decide +kernel
theorem d_Mo_keep_1 : decode b_Mo_keep 1 = .ok (.iconst 0, 1) := by decide +kernel
theorem d_Mo_keep_2 : decode b_Mo_keep 2 = .ok (.putfield 180, 3) := by decide +kernel
theorem d_Mo_keep_5 : decode b_Mo_keep 5 = .ok (.iload_n 1, 1) := by decide +kernel
theorem d_Mo_keep_6 : decode b_Mo_keep 6 = .ok (.istore 4, 2) := by decide +kernel
theorem d_Mo_keep_8 : decode b_Mo_keep 8 = .ok (.iload 4, 2) := by decide +kernel
theorem d_Mo_keep_10 : decode b_Mo_keep 10 = .ok (.iload_n 2, 1) := by decide +kernel
theorem d_Mo_keep_11 : decode b_Mo_keep 11 = .ok (.if_icmp .ge 53, 3) := by decide +kernel
theorem d_Mo_keep_14 : decode b_Mo_keep 14 = .ok (.aload_n 0, 1) := by decide +kernel
theorem d_Mo_keep_15 : decode b_Mo_keep 15 = .ok (.getfield 126, 3) := by decide +kernel
theorem d_Mo_keep_18 : decode b_Mo_keep 18 = .ok (.aload_n 0, 1) := by decide +kernel
theorem d_Mo_keep_19 : decode b_Mo_keep 19 = .ok (.getfield 180, 3) := by decide +kernel
theorem d_Mo_keep_22 : decode b_Mo_keep 22 = .ok (.iload_n 3, 1) := by decide +kernel
theorem d_Mo_keep_23 : decode b_Mo_keep 23 = .ok (.ifCond .eq 17, 3) := by decide +kernel
theorem d_Mo_keep_26 : decode b_Mo_keep 26 = .ok (.aload_n 0, 1) := by decide +kernel
theorem d_Mo_keep_27 : decode b_Mo_keep 27 = .ok (.getfield 117, 3) := by decide +kernel
theorem d_Mo_keep_30 : decode b_Mo_keep 30 = .ok (.iload 4, 2) := by decide +kernel
theorem d_Mo_keep_32 : decode b_Mo_keep 32 = .ok (.baload, 1) := by decide +kernel
theorem d_Mo_keep_33 : decode b_Mo_keep 33 = .ok (.invokestatic 135, 3) := by decide +kernel
theorem d_Mo_keep_36 : decode b_Mo_keep 36 = .ok (.i2b, 1) := by decide +kernel
theorem d_Mo_keep_37 : decode b_Mo_keep 37 = .ok (.goto 10, 3) := by decide +kernel
theorem d_Mo_keep_40 : decode b_Mo_keep 40 = .ok (.aload_n 0, 1) := by decide +kernel
theorem d_Mo_keep_41 : decode b_Mo_keep 41 = .ok (.getfield 117, 3) := by decide +kernel
theorem d_Mo_keep_44 : decode b_Mo_keep 44 = .ok (.iload 4, 2) := by decide +kernel
theorem d_Mo_keep_46 : decode b_Mo_keep 46 = .ok (.baload, 1) := by decide +kernel
theorem d_Mo_keep_47 : decode b_Mo_keep 47 = .ok (.bastore, 1) := by decide +kernel
theorem d_Mo_keep_48 : decode b_Mo_keep 48 = .ok (.aload_n 0, 1) := by decide +kernel
theorem d_Mo_keep_49 : decode b_Mo_keep 49 = .ok (.dup, 1) := by decide +kernel
theorem d_Mo_keep_50 : decode b_Mo_keep 50 = .ok (.getfield 180, 3) := by decide +kernel
theorem d_Mo_keep_53 : decode b_Mo_keep 53 = .ok (.iconst 1, 1) := by decide +kernel
theorem d_Mo_keep_54 : decode b_Mo_keep 54 = .ok (.iadd, 1) := by decide +kernel
theorem d_Mo_keep_55 : decode b_Mo_keep 55 = .ok (.putfield 180, 3) := by decide +kernel
theorem d_Mo_keep_58 : decode b_Mo_keep 58 = .ok (.iinc 4 1, 3) := by decide +kernel
theorem d_Mo_keep_61 : decode b_Mo_keep 61 = .ok (.goto (-53), 3) := by decide +kernel
theorem d_Mo_keep_64 : decode b_Mo_keep 64 = .ok (.return_, 1) := by decide +kernel
theorem d_Mo_nothing_0 : decode b_Mo_nothing 0 = .ok (.aload_n 0, 1) := by decide +kernel
theorem d_Mo_nothing_1 : decode b_Mo_nothing 1 = .ok (.iconst 0, 1) := by decide +kernel
theorem d_Mo_nothing_2 : decode b_Mo_nothing 2 = .ok (.putfield 180, 3) := by decide +kernel
theorem d_Mo_nothing_5 : decode b_Mo_nothing 5 = .ok (.return_, 1) := by decide +kernel
theorem d_Mo_firstItem_0 : decode b_Mo_firstItem 0 = .ok (.aload_n 0, 1) := by decide +kernel
theorem d_Mo_firstItem_1 : decode b_Mo_firstItem 1 = .ok (.invokevirtual 183, 3) := by decide +kernel
theorem d_Mo_firstItem_4 : decode b_Mo_firstItem 4 = .ok (.aload_n 0, 1) := by decide +kernel
theorem d_Mo_firstItem_5 : decode b_Mo_firstItem 5 = .ok (.iload_n 1, 1) := by decide +kernel
theorem d_Mo_firstItem_6 : decode b_Mo_firstItem 6 = .ok (.aload_n 2, 1) := by decide +kernel
theorem d_Mo_firstItem_7 : decode b_Mo_firstItem 7 = .ok (.aload_n 2, 1) := by decide +kernel
theorem d_Mo_firstItem_8 : decode b_Mo_firstItem 8 = .ok (.arraylength, 1) := by decide +kernel
theorem d_Mo_firstItem_9 : decode b_Mo_firstItem 9 = .ok (.invokevirtual 186, 3) := by decide +kernel
theorem d_Mo_firstItem_12 : decode b_Mo_firstItem 12 = .ok (.ifCond .ne 4, 3) := by decide +kernel
theorem d_Mo_firstItem_15 : decode b_Mo_firstItem 15 = .ok (.return_, 1) := by decide +kernel
theorem d_Mo_firstItem_16 : decode b_Mo_firstItem 16 = .ok (.aload_n 0, 1) := by decide +kernel
theorem d_Mo_firstItem_17 : decode b_Mo_firstItem 17 = .ok (.invokevirtual 190, 3) := by decide +kernel
theorem d_Mo_firstItem_20 : decode b_Mo_firstItem 20 = .ok (.aload_n 0, 1) := by decide +kernel
theorem d_Mo_firstItem_21 : decode b_Mo_firstItem 21 = .ok (.aload_n 0, 1) := by decide +kernel
theorem d_Mo_firstItem_22 : decode b_Mo_firstItem 22 = .ok (.getfield 120, 3) := by decide +kernel
theorem d_Mo_firstItem_25 : decode b_Mo_firstItem 25 = .ok (.iconst 0, 1) := by decide +kernel
theorem d_Mo_firstItem_26 : decode b_Mo_firstItem 26 = .ok (.iaload, 1) := by decide +kernel
theorem d_Mo_firstItem_27 : decode b_Mo_firstItem 27 = .ok (.aload_n 0, 1) := by decide +kernel
theorem d_Mo_firstItem_28 : decode b_Mo_firstItem 28 = .ok (.getfield 123, 3) := by decide +kernel
theorem d_Mo_firstItem_31 : decode b_Mo_firstItem 31 = .ok (.iconst 0, 1) := by decide +kernel
theorem d_Mo_firstItem_32 : decode b_Mo_firstItem 32 = .ok (.iaload, 1) := by decide +kernel
theorem d_Mo_firstItem_33 : decode b_Mo_firstItem 33 = .ok (.iconst 1, 1) := by decide +kernel
theorem d_Mo_firstItem_34 : decode b_Mo_firstItem 34 = .ok (.invokevirtual 193, 3) := by decide +kernel
theorem d_Mo_firstItem_37 : decode b_Mo_firstItem 37 = .ok (.return_, 1) := by decide +kernel
theorem d_Mo_parameterOf_0 : decode b_Mo_parameterOf 0 = .ok (.aload_n 0, 1) := by decide +kernel
theorem d_Mo_parameterOf_1 : decode b_Mo_parameterOf 1 = .ok (.invokevirtual 183, 3) := by decide +kernel
theorem d_Mo_parameterOf_4 : decode b_Mo_parameterOf 4 = .ok (.aload_n 0, 1) := by decide +kernel
theorem d_Mo_parameterOf_5 : decode b_Mo_parameterOf 5 = .ok (.invokevirtual 190, 3) := by decide +kernel
theorem d_Mo_parameterOf_8 : decode b_Mo_parameterOf 8 = .ok (.iconst 1, 1) := by decide +kernel
theorem d_Mo_parameterOf_9 : decode b_Mo_parameterOf 9 = .ok (.istore_n 3, 1) := by decide +kernel
theorem d_Mo_parameterOf_10 : decode b_Mo_parameterOf 10 = .ok (.iload_n 3, 1) := by decide +kernel
theorem d_Mo_parameterOf_11 : decode b_Mo_parameterOf 11 = .ok (.aload_n 0, 1) := by decide +kernel
theorem d_Mo_parameterOf_12 : decode b_Mo_parameterOf 12 = .ok (.getfield 169, 3) := by decide +kernel
theorem d_Mo_parameterOf_15 : decode b_Mo_parameterOf 15 = .ok (.if_icmp .ge 126, 3) := by decide +kernel
theorem d_Mo_parameterOf_18 : decode b_Mo_parameterOf 18 = .ok (.aload_n 0, 1) := by decide +kernel
theorem d_Mo_parameterOf_19 : decode b_Mo_parameterOf 19 = .ok (.getfield 120, 3) := by decide +kernel
theorem d_Mo_parameterOf_22 : decode b_Mo_parameterOf 22 = .ok (.iload_n 3, 1) := by decide +kernel
theorem d_Mo_parameterOf_23 : decode b_Mo_parameterOf 23 = .ok (.iaload, 1) := by decide +kernel
theorem d_Mo_parameterOf_24 : decode b_Mo_parameterOf 24 = .ok (.istore 4, 2) := by decide +kernel
theorem d_Mo_parameterOf_26 : decode b_Mo_parameterOf 26 = .ok (.iload 4, 2) := by decide +kernel
theorem d_Mo_parameterOf_28 : decode b_Mo_parameterOf 28 = .ok (.aload_n 0, 1) := by decide +kernel
theorem d_Mo_parameterOf_29 : decode b_Mo_parameterOf 29 = .ok (.getfield 123, 3) := by decide +kernel
theorem d_Mo_parameterOf_32 : decode b_Mo_parameterOf 32 = .ok (.iload_n 3, 1) := by decide +kernel
theorem d_Mo_parameterOf_33 : decode b_Mo_parameterOf 33 = .ok (.iaload, 1) := by decide +kernel
theorem d_Mo_parameterOf_34 : decode b_Mo_parameterOf 34 = .ok (.if_icmp .ge 32, 3) := by decide +kernel
theorem d_Mo_parameterOf_37 : decode b_Mo_parameterOf 37 = .ok (.aload_n 0, 1) := by decide +kernel
theorem d_Mo_parameterOf_38 : decode b_Mo_parameterOf 38 = .ok (.getfield 117, 3) := by decide +kernel
theorem d_Mo_parameterOf_41 : decode b_Mo_parameterOf 41 = .ok (.iload 4, 2) := by decide +kernel
theorem d_Mo_parameterOf_43 : decode b_Mo_parameterOf 43 = .ok (.baload, 1) := by decide +kernel
theorem d_Mo_parameterOf_44 : decode b_Mo_parameterOf 44 = .ok (.bipush 61, 2) := by decide +kernel
theorem d_Mo_parameterOf_46 : decode b_Mo_parameterOf 46 = .ok (.if_icmp .eq 20, 3) := by decide +kernel
theorem d_Mo_parameterOf_49 : decode b_Mo_parameterOf 49 = .ok (.aload_n 0, 1) := by decide +kernel
theorem d_Mo_parameterOf_50 : decode b_Mo_parameterOf 50 = .ok (.iload 4, 2) := by decide +kernel
theorem d_Mo_parameterOf_52 : decode b_Mo_parameterOf 52 = .ok (.aload_n 0, 1) := by decide +kernel
theorem d_Mo_parameterOf_53 : decode b_Mo_parameterOf 53 = .ok (.getfield 123, 3) := by decide +kernel
theorem d_Mo_parameterOf_56 : decode b_Mo_parameterOf 56 = .ok (.iload_n 3, 1) := by decide +kernel
theorem d_Mo_parameterOf_57 : decode b_Mo_parameterOf 57 = .ok (.iaload, 1) := by decide +kernel
theorem d_Mo_parameterOf_58 : decode b_Mo_parameterOf 58 = .ok (.invokevirtual 172, 3) := by decide +kernel
theorem d_Mo_parameterOf_61 : decode b_Mo_parameterOf 61 = .ok (.istore 4, 2) := by decide +kernel
theorem d_Mo_parameterOf_63 : decode b_Mo_parameterOf 63 = .ok (.goto (-37), 3) := by decide +kernel
theorem d_Mo_parameterOf_66 : decode b_Mo_parameterOf 66 = .ok (.iload 4, 2) := by decide +kernel
theorem d_Mo_parameterOf_68 : decode b_Mo_parameterOf 68 = .ok (.aload_n 0, 1) := by decide +kernel
theorem d_Mo_parameterOf_69 : decode b_Mo_parameterOf 69 = .ok (.getfield 123, 3) := by decide +kernel
theorem d_Mo_parameterOf_72 : decode b_Mo_parameterOf 72 = .ok (.iload_n 3, 1) := by decide +kernel
theorem d_Mo_parameterOf_73 : decode b_Mo_parameterOf 73 = .ok (.iaload, 1) := by decide +kernel
theorem d_Mo_parameterOf_74 : decode b_Mo_parameterOf 74 = .ok (.if_icmp .lt 6, 3) := by decide +kernel
theorem d_Mo_parameterOf_77 : decode b_Mo_parameterOf 77 = .ok (.goto 58, 3) := by decide +kernel
theorem d_Mo_parameterOf_80 : decode b_Mo_parameterOf 80 = .ok (.aload_n 0, 1) := by decide +kernel
theorem d_Mo_parameterOf_81 : decode b_Mo_parameterOf 81 = .ok (.aload_n 0, 1) := by decide +kernel
theorem d_Mo_parameterOf_82 : decode b_Mo_parameterOf 82 = .ok (.getfield 120, 3) := by decide +kernel
theorem d_Mo_parameterOf_85 : decode b_Mo_parameterOf 85 = .ok (.iload_n 3, 1) := by decide +kernel
theorem d_Mo_parameterOf_86 : decode b_Mo_parameterOf 86 = .ok (.iaload, 1) := by decide +kernel
theorem d_Mo_parameterOf_87 : decode b_Mo_parameterOf 87 = .ok (.iload 4, 2) := by decide +kernel
theorem d_Mo_parameterOf_89 : decode b_Mo_parameterOf 89 = .ok (.invokevirtual 176, 3) := by decide +kernel
theorem d_Mo_parameterOf_92 : decode b_Mo_parameterOf 92 = .ok (.aload_n 0, 1) := by decide +kernel
theorem d_Mo_parameterOf_93 : decode b_Mo_parameterOf 93 = .ok (.getfield 117, 3) := by decide +kernel
theorem d_Mo_parameterOf_96 : decode b_Mo_parameterOf 96 = .ok (.aload_n 0, 1) := by decide +kernel
theorem d_Mo_parameterOf_97 : decode b_Mo_parameterOf 97 = .ok (.getfield 163, 3) := by decide +kernel
theorem d_Mo_parameterOf_100 : decode b_Mo_parameterOf 100 = .ok (.aload_n 0, 1) := by decide +kernel
theorem d_Mo_parameterOf_101 : decode b_Mo_parameterOf 101 = .ok (.getfield 166, 3) := by decide +kernel
theorem d_Mo_parameterOf_104 : decode b_Mo_parameterOf 104 = .ok (.aload_n 1, 1) := by decide +kernel
theorem d_Mo_parameterOf_105 : decode b_Mo_parameterOf 105 = .ok (.iload_n 2, 1) := by decide +kernel
theorem d_Mo_parameterOf_106 : decode b_Mo_parameterOf 106 = .ok (.invokestatic 159, 3) := by decide +kernel
theorem d_Mo_parameterOf_109 : decode b_Mo_parameterOf 109 = .ok (.ifCond .ne 6, 3) := by decide +kernel
theorem d_Mo_parameterOf_112 : decode b_Mo_parameterOf 112 = .ok (.goto 23, 3) := by decide +kernel
theorem d_Mo_parameterOf_115 : decode b_Mo_parameterOf 115 = .ok (.aload_n 0, 1) := by decide +kernel
theorem d_Mo_parameterOf_116 : decode b_Mo_parameterOf 116 = .ok (.iload 4, 2) := by decide +kernel
theorem d_Mo_parameterOf_118 : decode b_Mo_parameterOf 118 = .ok (.iconst 1, 1) := by decide +kernel
theorem d_Mo_parameterOf_119 : decode b_Mo_parameterOf 119 = .ok (.iadd, 1) := by decide +kernel
theorem d_Mo_parameterOf_120 : decode b_Mo_parameterOf 120 = .ok (.aload_n 0, 1) := by decide +kernel
theorem d_Mo_parameterOf_121 : decode b_Mo_parameterOf 121 = .ok (.getfield 123, 3) := by decide +kernel
theorem d_Mo_parameterOf_124 : decode b_Mo_parameterOf 124 = .ok (.iload_n 3, 1) := by decide +kernel
theorem d_Mo_parameterOf_125 : decode b_Mo_parameterOf 125 = .ok (.iaload, 1) := by decide +kernel
theorem d_Mo_parameterOf_126 : decode b_Mo_parameterOf 126 = .ok (.invokevirtual 176, 3) := by decide +kernel
theorem d_Mo_parameterOf_129 : decode b_Mo_parameterOf 129 = .ok (.aload_n 0, 1) := by decide +kernel
theorem d_Mo_parameterOf_130 : decode b_Mo_parameterOf 130 = .ok (.invokevirtual 197, 3) := by decide +kernel
theorem d_Mo_parameterOf_133 : decode b_Mo_parameterOf 133 = .ok (.iconst 1, 1) := by decide +kernel
theorem d_Mo_parameterOf_134 : decode b_Mo_parameterOf 134 = .ok (.ireturn, 1) := by decide +kernel
theorem d_Mo_parameterOf_135 : decode b_Mo_parameterOf 135 = .ok (.iinc 3 1, 3) := by decide +kernel
theorem d_Mo_parameterOf_138 : decode b_Mo_parameterOf 138 = .ok (.goto (-128), 3) := by decide +kernel
theorem d_Mo_parameterOf_141 : decode b_Mo_parameterOf 141 = .ok (.iconst 0, 1) := by decide +kernel
theorem d_Mo_parameterOf_142 : decode b_Mo_parameterOf 142 = .ok (.ireturn, 1) := by decide +kernel
end
section
theorem d_Mo_unquote_0 : decode b_Mo_unquote 0 = .ok (.aload_n 0, 1) := by decide +kernel
theorem d_Mo_unquote_1 : decode b_Mo_unquote 1 = .ok (.getfield 163, 3) := by decide +kernel
theorem d_Mo_unquote_4 : decode b_Mo_unquote 4 = .ok (.aload_n 0, 1) := by decide +kernel
theorem d_Mo_unquote_5 : decode b_Mo_unquote 5 = .ok (.getfield 166, 3) := by decide +kernel
theorem d_Mo_unquote_8 : decode b_Mo_unquote 8 = .ok (.if_icmp .ge 21, 3) := by decide +kernel
theorem d_Mo_unquote_11 : decode b_Mo_unquote 11 = .ok (.aload_n 0, 1) := by decide +kernel
theorem d_Mo_unquote_12 : decode b_Mo_unquote 12 = .ok (.getfield 117, 3) := by decide +kernel
theorem d_Mo_unquote_15 : decode b_Mo_unquote 15 = .ok (.aload_n 0, 1) := by decide +kernel
theorem d_Mo_unquote_16 : decode b_Mo_unquote 16 = .ok (.getfield 163, 3) := by decide +kernel
theorem d_Mo_unquote_19 : decode b_Mo_unquote 19 = .ok (.baload, 1) := by decide +kernel
theorem d_Mo_unquote_20 : decode b_Mo_unquote 20 = .ok (.bipush 34, 2) := by decide +kernel
theorem d_Mo_unquote_22 : decode b_Mo_unquote 22 = .ok (.if_icmp .ne 7, 3) := by decide +kernel
theorem d_Mo_unquote_25 : decode b_Mo_unquote 25 = .ok (.iconst 1, 1) := by decide +kernel
theorem d_Mo_unquote_26 : decode b_Mo_unquote 26 = .ok (.goto 4, 3) := by decide +kernel
theorem d_Mo_unquote_29 : decode b_Mo_unquote 29 = .ok (.iconst 0, 1) := by decide +kernel
theorem d_Mo_unquote_30 : decode b_Mo_unquote 30 = .ok (.istore_n 1, 1) := by decide +kernel
theorem d_Mo_unquote_31 : decode b_Mo_unquote 31 = .ok (.aload_n 0, 1) := by decide +kernel
theorem d_Mo_unquote_32 : decode b_Mo_unquote 32 = .ok (.getfield 163, 3) := by decide +kernel
theorem d_Mo_unquote_35 : decode b_Mo_unquote 35 = .ok (.iconst 1, 1) := by decide +kernel
theorem d_Mo_unquote_36 : decode b_Mo_unquote 36 = .ok (.iadd, 1) := by decide +kernel
theorem d_Mo_unquote_37 : decode b_Mo_unquote 37 = .ok (.istore_n 2, 1) := by decide +kernel
theorem d_Mo_unquote_38 : decode b_Mo_unquote 38 = .ok (.aload_n 0, 1) := by decide +kernel
theorem d_Mo_unquote_39 : decode b_Mo_unquote 39 = .ok (.iconst 0, 1) := by decide +kernel
theorem d_Mo_unquote_40 : decode b_Mo_unquote 40 = .ok (.putfield 180, 3) := by decide +kernel
theorem d_Mo_unquote_43 : decode b_Mo_unquote 43 = .ok (.iload_n 1, 1) := by decide +kernel
theorem d_Mo_unquote_44 : decode b_Mo_unquote 44 = .ok (.ifCond .eq 75, 3) := by decide +kernel
theorem d_Mo_unquote_47 : decode b_Mo_unquote 47 = .ok (.iload_n 2, 1) := by decide +kernel
theorem d_Mo_unquote_48 : decode b_Mo_unquote 48 = .ok (.aload_n 0, 1) := by decide +kernel
theorem d_Mo_unquote_49 : decode b_Mo_unquote 49 = .ok (.getfield 166, 3) := by decide +kernel
theorem d_Mo_unquote_52 : decode b_Mo_unquote 52 = .ok (.if_icmp .ge 67, 3) := by decide +kernel
theorem d_Mo_unquote_55 : decode b_Mo_unquote 55 = .ok (.aload_n 0, 1) := by decide +kernel
theorem d_Mo_unquote_56 : decode b_Mo_unquote 56 = .ok (.getfield 117, 3) := by decide +kernel
theorem d_Mo_unquote_59 : decode b_Mo_unquote 59 = .ok (.iload_n 2, 1) := by decide +kernel
theorem d_Mo_unquote_60 : decode b_Mo_unquote 60 = .ok (.baload, 1) := by decide +kernel
theorem d_Mo_unquote_61 : decode b_Mo_unquote 61 = .ok (.bipush 34, 2) := by decide +kernel
theorem d_Mo_unquote_63 : decode b_Mo_unquote 63 = .ok (.if_icmp .eq 56, 3) := by decide +kernel
theorem d_Mo_unquote_66 : decode b_Mo_unquote 66 = .ok (.aload_n 0, 1) := by decide +kernel
theorem d_Mo_unquote_67 : decode b_Mo_unquote 67 = .ok (.getfield 117, 3) := by decide +kernel
theorem d_Mo_unquote_70 : decode b_Mo_unquote 70 = .ok (.iload_n 2, 1) := by decide +kernel
theorem d_Mo_unquote_71 : decode b_Mo_unquote 71 = .ok (.baload, 1) := by decide +kernel
theorem d_Mo_unquote_72 : decode b_Mo_unquote 72 = .ok (.bipush 92, 2) := by decide +kernel
theorem d_Mo_unquote_74 : decode b_Mo_unquote 74 = .ok (.if_icmp .ne 6, 3) := by decide +kernel
theorem d_Mo_unquote_77 : decode b_Mo_unquote 77 = .ok (.iinc 2 1, 3) := by decide +kernel
theorem d_Mo_unquote_80 : decode b_Mo_unquote 80 = .ok (.iload_n 2, 1) := by decide +kernel
theorem d_Mo_unquote_81 : decode b_Mo_unquote 81 = .ok (.aload_n 0, 1) := by decide +kernel
theorem d_Mo_unquote_82 : decode b_Mo_unquote 82 = .ok (.getfield 166, 3) := by decide +kernel
theorem d_Mo_unquote_85 : decode b_Mo_unquote 85 = .ok (.if_icmp .ge 28, 3) := by decide +kernel
theorem d_Mo_unquote_88 : decode b_Mo_unquote 88 = .ok (.aload_n 0, 1) := by decide +kernel
theorem d_Mo_unquote_89 : decode b_Mo_unquote 89 = .ok (.getfield 126, 3) := by decide +kernel
theorem d_Mo_unquote_92 : decode b_Mo_unquote 92 = .ok (.aload_n 0, 1) := by decide +kernel
theorem d_Mo_unquote_93 : decode b_Mo_unquote 93 = .ok (.getfield 180, 3) := by decide +kernel
theorem d_Mo_unquote_96 : decode b_Mo_unquote 96 = .ok (.aload_n 0, 1) := by decide +kernel
theorem d_Mo_unquote_97 : decode b_Mo_unquote 97 = .ok (.getfield 117, 3) := by decide +kernel
theorem d_Mo_unquote_100 : decode b_Mo_unquote 100 = .ok (.iload_n 2, 1) := by decide +kernel
theorem d_Mo_unquote_101 : decode b_Mo_unquote 101 = .ok (.baload, 1) := by decide +kernel
theorem d_Mo_unquote_102 : decode b_Mo_unquote 102 = .ok (.bastore, 1) := by decide +kernel
theorem d_Mo_unquote_103 : decode b_Mo_unquote 103 = .ok (.aload_n 0, 1) := by decide +kernel
theorem d_Mo_unquote_104 : decode b_Mo_unquote 104 = .ok (.dup, 1) := by decide +kernel
theorem d_Mo_unquote_105 : decode b_Mo_unquote 105 = .ok (.getfield 180, 3) := by decide +kernel
theorem d_Mo_unquote_108 : decode b_Mo_unquote 108 = .ok (.iconst 1, 1) := by decide +kernel
theorem d_Mo_unquote_109 : decode b_Mo_unquote 109 = .ok (.iadd, 1) := by decide +kernel
theorem d_Mo_unquote_110 : decode b_Mo_unquote 110 = .ok (.putfield 180, 3) := by decide +kernel
theorem d_Mo_unquote_113 : decode b_Mo_unquote 113 = .ok (.iinc 2 1, 3) := by decide +kernel
theorem d_Mo_unquote_116 : decode b_Mo_unquote 116 = .ok (.goto (-73), 3) := by decide +kernel
theorem d_Mo_unquote_119 : decode b_Mo_unquote 119 = .ok (.iload_n 1, 1) := by decide +kernel
theorem d_Mo_unquote_120 : decode b_Mo_unquote 120 = .ok (.ifCond .eq 11, 3) := by decide +kernel
theorem d_Mo_unquote_123 : decode b_Mo_unquote 123 = .ok (.iload_n 2, 1) := by decide +kernel
theorem d_Mo_unquote_124 : decode b_Mo_unquote 124 = .ok (.aload_n 0, 1) := by decide +kernel
theorem d_Mo_unquote_125 : decode b_Mo_unquote 125 = .ok (.getfield 166, 3) := by decide +kernel
theorem d_Mo_unquote_128 : decode b_Mo_unquote 128 = .ok (.if_icmp .lt 16, 3) := by decide +kernel
theorem d_Mo_unquote_131 : decode b_Mo_unquote 131 = .ok (.aload_n 0, 1) := by decide +kernel
theorem d_Mo_unquote_132 : decode b_Mo_unquote 132 = .ok (.aload_n 0, 1) := by decide +kernel
theorem d_Mo_unquote_133 : decode b_Mo_unquote 133 = .ok (.getfield 163, 3) := by decide +kernel
theorem d_Mo_unquote_136 : decode b_Mo_unquote 136 = .ok (.aload_n 0, 1) := by decide +kernel
theorem d_Mo_unquote_137 : decode b_Mo_unquote 137 = .ok (.getfield 166, 3) := by decide +kernel
theorem d_Mo_unquote_140 : decode b_Mo_unquote 140 = .ok (.iconst 0, 1) := by decide +kernel
theorem d_Mo_unquote_141 : decode b_Mo_unquote 141 = .ok (.invokevirtual 193, 3) := by decide +kernel
theorem d_Mo_unquote_144 : decode b_Mo_unquote 144 = .ok (.return_, 1) := by decide +kernel
theorem d_Mo_isGot_0 : decode b_Mo_isGot 0 = .ok (.aload_n 0, 1) := by decide +kernel
theorem d_Mo_isGot_1 : decode b_Mo_isGot 1 = .ok (.getfield 126, 3) := by decide +kernel
theorem d_Mo_isGot_4 : decode b_Mo_isGot 4 = .ok (.iconst 0, 1) := by decide +kernel
theorem d_Mo_isGot_5 : decode b_Mo_isGot 5 = .ok (.aload_n 0, 1) := by decide +kernel
theorem d_Mo_isGot_6 : decode b_Mo_isGot 6 = .ok (.getfield 180, 3) := by decide +kernel
theorem d_Mo_isGot_9 : decode b_Mo_isGot 9 = .ok (.aload_n 1, 1) := by decide +kernel
theorem d_Mo_isGot_10 : decode b_Mo_isGot 10 = .ok (.aload_n 1, 1) := by decide +kernel
theorem d_Mo_isGot_11 : decode b_Mo_isGot 11 = .ok (.arraylength, 1) := by decide +kernel
theorem d_Mo_isGot_12 : decode b_Mo_isGot 12 = .ok (.invokestatic 159, 3) := by decide +kernel
theorem d_Mo_isGot_15 : decode b_Mo_isGot 15 = .ok (.ireturn, 1) := by decide +kernel
theorem d_Mo_begins_0 : decode b_Mo_begins 0 = .ok (.aload_n 0, 1) := by decide +kernel
theorem d_Mo_begins_1 : decode b_Mo_begins 1 = .ok (.getfield 180, 3) := by decide +kernel
theorem d_Mo_begins_4 : decode b_Mo_begins 4 = .ok (.aload_n 1, 1) := by decide +kernel
theorem d_Mo_begins_5 : decode b_Mo_begins 5 = .ok (.arraylength, 1) := by decide +kernel
theorem d_Mo_begins_6 : decode b_Mo_begins 6 = .ok (.if_icmp .lt 23, 3) := by decide +kernel
theorem d_Mo_begins_9 : decode b_Mo_begins 9 = .ok (.aload_n 0, 1) := by decide +kernel
theorem d_Mo_begins_10 : decode b_Mo_begins 10 = .ok (.getfield 126, 3) := by decide +kernel
theorem d_Mo_begins_13 : decode b_Mo_begins 13 = .ok (.iconst 0, 1) := by decide +kernel
theorem d_Mo_begins_14 : decode b_Mo_begins 14 = .ok (.aload_n 1, 1) := by decide +kernel
theorem d_Mo_begins_15 : decode b_Mo_begins 15 = .ok (.arraylength, 1) := by decide +kernel
theorem d_Mo_begins_16 : decode b_Mo_begins 16 = .ok (.aload_n 1, 1) := by decide +kernel
theorem d_Mo_begins_17 : decode b_Mo_begins 17 = .ok (.aload_n 1, 1) := by decide +kernel
theorem d_Mo_begins_18 : decode b_Mo_begins 18 = .ok (.arraylength, 1) := by decide +kernel
theorem d_Mo_begins_19 : decode b_Mo_begins 19 = .ok (.invokestatic 159, 3) := by decide +kernel
theorem d_Mo_begins_22 : decode b_Mo_begins 22 = .ok (.ifCond .eq 7, 3) := by decide +kernel
theorem d_Mo_begins_25 : decode b_Mo_begins 25 = .ok (.iconst 1, 1) := by decide +kernel
theorem d_Mo_begins_26 : decode b_Mo_begins 26 = .ok (.goto 4, 3) := by decide +kernel
theorem d_Mo_begins_29 : decode b_Mo_begins 29 = .ok (.iconst 0, 1) := by decide +kernel
theorem d_Mo_begins_30 : decode b_Mo_begins 30 = .ok (.ireturn, 1) := by decide +kernel
theorem d_Mo_isType_0 : decode b_Mo_isType 0 = .ok (.iconst 0, 1) := by decide +kernel
theorem d_Mo_isType_1 : decode b_Mo_isType 1 = .ok (.istore_n 1, 1) := by decide +kernel
theorem d_Mo_isType_2 : decode b_Mo_isType 2 = .ok (.iconst 0, 1) := by decide +kernel
theorem d_Mo_isType_3 : decode b_Mo_isType 3 = .ok (.istore_n 2, 1) := by decide +kernel
theorem d_Mo_isType_4 : decode b_Mo_isType 4 = .ok (.iload_n 2, 1) := by decide +kernel
theorem d_Mo_isType_5 : decode b_Mo_isType 5 = .ok (.aload_n 0, 1) := by decide +kernel
theorem d_Mo_isType_6 : decode b_Mo_isType 6 = .ok (.getfield 180, 3) := by decide +kernel
theorem d_Mo_isType_9 : decode b_Mo_isType 9 = .ok (.if_icmp .ge 58, 3) := by decide +kernel
theorem d_Mo_isType_12 : decode b_Mo_isType 12 = .ok (.aload_n 0, 1) := by decide +kernel
theorem d_Mo_isType_13 : decode b_Mo_isType 13 = .ok (.getfield 126, 3) := by decide +kernel
theorem d_Mo_isType_16 : decode b_Mo_isType 16 = .ok (.iload_n 2, 1) := by decide +kernel
theorem d_Mo_isType_17 : decode b_Mo_isType 17 = .ok (.baload, 1) := by decide +kernel
theorem d_Mo_isType_18 : decode b_Mo_isType 18 = .ok (.invokestatic 153, 3) := by decide +kernel
theorem d_Mo_isType_21 : decode b_Mo_isType 21 = .ok (.ifCond .eq 5, 3) := by decide +kernel
theorem d_Mo_isType_24 : decode b_Mo_isType 24 = .ok (.iconst 0, 1) := by decide +kernel
theorem d_Mo_isType_25 : decode b_Mo_isType 25 = .ok (.ireturn, 1) := by decide +kernel
theorem d_Mo_isType_26 : decode b_Mo_isType 26 = .ok (.iload_n 1, 1) := by decide +kernel
theorem d_Mo_isType_27 : decode b_Mo_isType 27 = .ok (.ifCond .ne 28, 3) := by decide +kernel
theorem d_Mo_isType_30 : decode b_Mo_isType 30 = .ok (.aload_n 0, 1) := by decide +kernel
theorem d_Mo_isType_31 : decode b_Mo_isType 31 = .ok (.getfield 126, 3) := by decide +kernel
theorem d_Mo_isType_34 : decode b_Mo_isType 34 = .ok (.iload_n 2, 1) := by decide +kernel
theorem d_Mo_isType_35 : decode b_Mo_isType 35 = .ok (.baload, 1) := by decide +kernel
theorem d_Mo_isType_36 : decode b_Mo_isType 36 = .ok (.bipush 47, 2) := by decide +kernel
theorem d_Mo_isType_38 : decode b_Mo_isType 38 = .ok (.if_icmp .ne 21, 3) := by decide +kernel
theorem d_Mo_isType_41 : decode b_Mo_isType 41 = .ok (.iload_n 2, 1) := by decide +kernel
theorem d_Mo_isType_42 : decode b_Mo_isType 42 = .ok (.ifCond .le 17, 3) := by decide +kernel
theorem d_Mo_isType_45 : decode b_Mo_isType 45 = .ok (.iload_n 2, 1) := by decide +kernel
theorem d_Mo_isType_46 : decode b_Mo_isType 46 = .ok (.aload_n 0, 1) := by decide +kernel
theorem d_Mo_isType_47 : decode b_Mo_isType 47 = .ok (.getfield 180, 3) := by decide +kernel
theorem d_Mo_isType_50 : decode b_Mo_isType 50 = .ok (.iconst 1, 1) := by decide +kernel
theorem d_Mo_isType_51 : decode b_Mo_isType 51 = .ok (.isub, 1) := by decide +kernel
theorem d_Mo_isType_52 : decode b_Mo_isType 52 = .ok (.if_icmp .ge 7, 3) := by decide +kernel
theorem d_Mo_isType_55 : decode b_Mo_isType 55 = .ok (.iconst 1, 1) := by decide +kernel
theorem d_Mo_isType_56 : decode b_Mo_isType 56 = .ok (.goto 4, 3) := by decide +kernel
theorem d_Mo_isType_59 : decode b_Mo_isType 59 = .ok (.iconst 0, 1) := by decide +kernel
theorem d_Mo_isType_60 : decode b_Mo_isType 60 = .ok (.istore_n 1, 1) := by decide +kernel
theorem d_Mo_isType_61 : decode b_Mo_isType 61 = .ok (.iinc 2 1, 3) := by decide +kernel
theorem d_Mo_isType_64 : decode b_Mo_isType 64 = .ok (.goto (-60), 3) := by decide +kernel
theorem d_Mo_isType_67 : decode b_Mo_isType 67 = .ok (.iload_n 1, 1) := by decide +kernel
theorem d_Mo_isType_68 : decode b_Mo_isType 68 = .ok (.ireturn, 1) := by decide +kernel
theorem d_Mo_set_0 : decode b_Mo_set 0 = .ok (.aload_n 0, 1) := by decide +kernel
theorem d_Mo_set_1 : decode b_Mo_set 1 = .ok (.aload_n 1, 1) := by decide +kernel
theorem d_Mo_set_2 : decode b_Mo_set 2 = .ok (.arraylength, 1) := by decide +kernel
theorem d_Mo_set_3 : decode b_Mo_set 3 = .ok (.putfield 180, 3) := by decide +kernel
theorem d_Mo_set_6 : decode b_Mo_set 6 = .ok (.iconst 0, 1) := by decide +kernel
theorem d_Mo_set_7 : decode b_Mo_set 7 = .ok (.istore_n 2, 1) := by decide +kernel
theorem d_Mo_set_8 : decode b_Mo_set 8 = .ok (.iload_n 2, 1) := by decide +kernel
theorem d_Mo_set_9 : decode b_Mo_set 9 = .ok (.aload_n 1, 1) := by decide +kernel
theorem d_Mo_set_10 : decode b_Mo_set 10 = .ok (.arraylength, 1) := by decide +kernel
theorem d_Mo_set_11 : decode b_Mo_set 11 = .ok (.if_icmp .ge 19, 3) := by decide +kernel
theorem d_Mo_set_14 : decode b_Mo_set 14 = .ok (.aload_n 0, 1) := by decide +kernel
theorem d_Mo_set_15 : decode b_Mo_set 15 = .ok (.getfield 126, 3) := by decide +kernel
theorem d_Mo_set_18 : decode b_Mo_set 18 = .ok (.iload_n 2, 1) := by decide +kernel
theorem d_Mo_set_19 : decode b_Mo_set 19 = .ok (.aload_n 1, 1) := by decide +kernel
theorem d_Mo_set_20 : decode b_Mo_set 20 = .ok (.iload_n 2, 1) := by decide +kernel
theorem d_Mo_set_21 : decode b_Mo_set 21 = .ok (.iaload, 1) := by decide +kernel
theorem d_Mo_set_22 : decode b_Mo_set 22 = .ok (.i2b, 1) := by decide +kernel
theorem d_Mo_set_23 : decode b_Mo_set 23 = .ok (.bastore, 1) := by decide +kernel
theorem d_Mo_set_24 : decode b_Mo_set 24 = .ok (.iinc 2 1, 3) := by decide +kernel
theorem d_Mo_set_27 : decode b_Mo_set 27 = .ok (.goto (-19), 3) := by decide +kernel
theorem d_Mo_set_30 : decode b_Mo_set 30 = .ok (.return_, 1) := by decide +kernel
theorem d_Mo_type_0 : decode b_Mo_type 0 = .ok (.aload_n 0, 1) := by decide +kernel
theorem d_Mo_type_1 : decode b_Mo_type 1 = .ok (.iload_n 1, 1) := by decide +kernel
theorem d_Mo_type_2 : decode b_Mo_type 2 = .ok (.aload_n 0, 1) := by decide +kernel
theorem d_Mo_type_3 : decode b_Mo_type 3 = .ok (.getfield 7, 3) := by decide +kernel
theorem d_Mo_type_6 : decode b_Mo_type 6 = .ok (.invokevirtual 200, 3) := by decide +kernel
theorem d_Mo_type_9 : decode b_Mo_type 9 = .ok (.aload_n 0, 1) := by decide +kernel
theorem d_Mo_type_10 : decode b_Mo_type 10 = .ok (.invokevirtual 204, 3) := by decide +kernel
theorem d_Mo_type_13 : decode b_Mo_type 13 = .ok (.ifCond .eq 4, 3) := by decide +kernel
theorem d_Mo_type_16 : decode b_Mo_type 16 = .ok (.return_, 1) := by decide +kernel
theorem d_Mo_type_17 : decode b_Mo_type 17 = .ok (.iconst 0, 1) := by decide +kernel
theorem d_Mo_type_18 : decode b_Mo_type 18 = .ok (.istore_n 2, 1) := by decide +kernel
theorem d_Mo_type_19 : decode b_Mo_type 19 = .ok (.aload_n 0, 1) := by decide +kernel
theorem d_Mo_type_20 : decode b_Mo_type 20 = .ok (.getfield 89, 3) := by decide +kernel
theorem d_Mo_type_23 : decode b_Mo_type 23 = .ok (.iload_n 1, 1) := by decide +kernel
theorem d_Mo_type_24 : decode b_Mo_type 24 = .ok (.iaload, 1) := by decide +kernel
theorem d_Mo_type_25 : decode b_Mo_type 25 = .ok (.iconst (-1), 1) := by decide +kernel
theorem d_Mo_type_26 : decode b_Mo_type 26 = .ok (.if_icmp .eq 41, 3) := by decide +kernel
theorem d_Mo_type_29 : decode b_Mo_type 29 = .ok (.aload_n 0, 1) := by decide +kernel
theorem d_Mo_type_30 : decode b_Mo_type 30 = .ok (.getfield 95, 3) := by decide +kernel
theorem d_Mo_type_33 : decode b_Mo_type 33 = .ok (.aload_n 0, 1) := by decide +kernel
theorem d_Mo_type_34 : decode b_Mo_type 34 = .ok (.getfield 89, 3) := by decide +kernel
theorem d_Mo_type_37 : decode b_Mo_type 37 = .ok (.iload_n 1, 1) := by decide +kernel
theorem d_Mo_type_38 : decode b_Mo_type 38 = .ok (.iaload, 1) := by decide +kernel
theorem d_Mo_type_39 : decode b_Mo_type 39 = .ok (.iaload, 1) := by decide +kernel
theorem d_Mo_type_40 : decode b_Mo_type 40 = .ok (.iconst 1, 1) := by decide +kernel
theorem d_Mo_type_41 : decode b_Mo_type 41 = .ok (.if_icmp .ne 26, 3) := by decide +kernel
theorem d_Mo_type_44 : decode b_Mo_type 44 = .ok (.aload_n 0, 1) := by decide +kernel
theorem d_Mo_type_45 : decode b_Mo_type 45 = .ok (.aload_n 0, 1) := by decide +kernel
theorem d_Mo_type_46 : decode b_Mo_type 46 = .ok (.getfield 89, 3) := by decide +kernel
theorem d_Mo_type_49 : decode b_Mo_type 49 = .ok (.iload_n 1, 1) := by decide +kernel
theorem d_Mo_type_50 : decode b_Mo_type 50 = .ok (.iaload, 1) := by decide +kernel
theorem d_Mo_type_51 : decode b_Mo_type 51 = .ok (.aload_n 0, 1) := by decide +kernel
theorem d_Mo_type_52 : decode b_Mo_type 52 = .ok (.getfield 7, 3) := by decide +kernel
theorem d_Mo_type_55 : decode b_Mo_type 55 = .ok (.invokevirtual 200, 3) := by decide +kernel
theorem d_Mo_type_58 : decode b_Mo_type 58 = .ok (.aload_n 0, 1) := by decide +kernel
theorem d_Mo_type_59 : decode b_Mo_type 59 = .ok (.aload_n 0, 1) := by decide +kernel
theorem d_Mo_type_60 : decode b_Mo_type 60 = .ok (.getfield 40, 3) := by decide +kernel
theorem d_Mo_type_63 : decode b_Mo_type 63 = .ok (.invokevirtual 208, 3) := by decide +kernel
theorem d_Mo_type_66 : decode b_Mo_type 66 = .ok (.istore_n 2, 1) := by decide +kernel
theorem d_Mo_type_67 : decode b_Mo_type 67 = .ok (.aload_n 0, 1) := by decide +kernel
theorem d_Mo_type_68 : decode b_Mo_type 68 = .ok (.iload_n 2, 1) := by decide +kernel
theorem d_Mo_type_69 : decode b_Mo_type 69 = .ok (.ifCond .eq 10, 3) := by decide +kernel
theorem d_Mo_type_72 : decode b_Mo_type 72 = .ok (.aload_n 0, 1) := by decide +kernel
theorem d_Mo_type_73 : decode b_Mo_type 73 = .ok (.getfield 46, 3) := by decide +kernel
theorem d_Mo_type_76 : decode b_Mo_type 76 = .ok (.goto 7, 3) := by decide +kernel
theorem d_Mo_type_79 : decode b_Mo_type 79 = .ok (.aload_n 0, 1) := by decide +kernel
theorem d_Mo_type_80 : decode b_Mo_type 80 = .ok (.getfield 28, 3) := by decide +kernel
theorem d_Mo_type_83 : decode b_Mo_type 83 = .ok (.invokevirtual 212, 3) := by decide +kernel
theorem d_Mo_type_86 : decode b_Mo_type 86 = .ok (.return_, 1) := by decide +kernel
theorem d_Mo_called_0 : decode b_Mo_called 0 = .ok (.aload_n 0, 1) := by decide +kernel
theorem d_Mo_called_1 : decode b_Mo_called 1 = .ok (.iload_n 1, 1) := by decide +kernel
theorem d_Mo_called_2 : decode b_Mo_called 2 = .ok (.aload_n 0, 1) := by decide +kernel
theorem d_Mo_called_3 : decode b_Mo_called 3 = .ok (.getfield 16, 3) := by decide +kernel
theorem d_Mo_called_6 : decode b_Mo_called 6 = .ok (.aload_n 0, 1) := by decide +kernel
theorem d_Mo_called_7 : decode b_Mo_called 7 = .ok (.getfield 16, 3) := by decide +kernel
theorem d_Mo_called_10 : decode b_Mo_called 10 = .ok (.arraylength, 1) := by decide +kernel
theorem d_Mo_called_11 : decode b_Mo_called 11 = .ok (.invokevirtual 186, 3) := by decide +kernel
theorem d_Mo_called_14 : decode b_Mo_called 14 = .ok (.ifCond .eq 20, 3) := by decide +kernel
theorem d_Mo_called_17 : decode b_Mo_called 17 = .ok (.aload_n 0, 1) := by decide +kernel
theorem d_Mo_called_18 : decode b_Mo_called 18 = .ok (.aload_n 0, 1) := by decide +kernel
theorem d_Mo_called_19 : decode b_Mo_called 19 = .ok (.getfield 22, 3) := by decide +kernel
theorem d_Mo_called_22 : decode b_Mo_called 22 = .ok (.aload_n 0, 1) := by decide +kernel
theorem d_Mo_called_23 : decode b_Mo_called 23 = .ok (.getfield 22, 3) := by decide +kernel
theorem d_Mo_called_26 : decode b_Mo_called 26 = .ok (.arraylength, 1) := by decide +kernel
theorem d_Mo_called_27 : decode b_Mo_called 27 = .ok (.invokevirtual 216, 3) := by decide +kernel
theorem d_Mo_called_30 : decode b_Mo_called 30 = .ok (.ifCond .eq 4, 3) := by decide +kernel
theorem d_Mo_called_33 : decode b_Mo_called 33 = .ok (.return_, 1) := by decide +kernel
theorem d_Mo_called_34 : decode b_Mo_called 34 = .ok (.aload_n 0, 1) := by decide +kernel
theorem d_Mo_called_35 : decode b_Mo_called 35 = .ok (.invokevirtual 183, 3) := by decide +kernel
theorem d_Mo_called_38 : decode b_Mo_called 38 = .ok (.aload_n 0, 1) := by decide +kernel
theorem d_Mo_called_39 : decode b_Mo_called 39 = .ok (.iload_n 1, 1) := by decide +kernel
theorem d_Mo_called_40 : decode b_Mo_called 40 = .ok (.aload_n 0, 1) := by decide +kernel
theorem d_Mo_called_41 : decode b_Mo_called 41 = .ok (.getfield 7, 3) := by decide +kernel
theorem d_Mo_called_44 : decode b_Mo_called 44 = .ok (.aload_n 0, 1) := by decide +kernel
theorem d_Mo_called_45 : decode b_Mo_called 45 = .ok (.getfield 7, 3) := by decide +kernel
theorem d_Mo_called_48 : decode b_Mo_called 48 = .ok (.arraylength, 1) := by decide +kernel
theorem d_Mo_called_49 : decode b_Mo_called 49 = .ok (.invokevirtual 186, 3) := by decide +kernel
theorem d_Mo_called_52 : decode b_Mo_called 52 = .ok (.ifCond .eq 23, 3) := by decide +kernel
theorem d_Mo_called_55 : decode b_Mo_called 55 = .ok (.aload_n 0, 1) := by decide +kernel
theorem d_Mo_called_56 : decode b_Mo_called 56 = .ok (.aload_n 0, 1) := by decide +kernel
theorem d_Mo_called_57 : decode b_Mo_called 57 = .ok (.getfield 25, 3) := by decide +kernel
theorem d_Mo_called_60 : decode b_Mo_called 60 = .ok (.aload_n 0, 1) := by decide +kernel
theorem d_Mo_called_61 : decode b_Mo_called 61 = .ok (.getfield 25, 3) := by decide +kernel
theorem d_Mo_called_64 : decode b_Mo_called 64 = .ok (.arraylength, 1) := by decide +kernel
theorem d_Mo_called_65 : decode b_Mo_called 65 = .ok (.invokevirtual 216, 3) := by decide +kernel
theorem d_Mo_called_68 : decode b_Mo_called 68 = .ok (.ifCond .ne 7, 3) := by decide +kernel
theorem d_Mo_called_71 : decode b_Mo_called 71 = .ok (.aload_n 0, 1) := by decide +kernel
theorem d_Mo_called_72 : decode b_Mo_called 72 = .ok (.invokevirtual 183, 3) := by decide +kernel
theorem d_Mo_called_75 : decode b_Mo_called 75 = .ok (.return_, 1) := by decide +kernel
theorem d_Mo_isHung_0 : decode b_Mo_isHung 0 = .ok (.aload_n 0, 1) := by decide +kernel
theorem d_Mo_isHung_1 : decode b_Mo_isHung 1 = .ok (.iload_n 1, 1) := by decide +kernel
theorem d_Mo_isHung_2 : decode b_Mo_isHung 2 = .ok (.aload_n 0, 1) := by decide +kernel
theorem d_Mo_isHung_3 : decode b_Mo_isHung 3 = .ok (.getfield 16, 3) := by decide +kernel
theorem d_Mo_isHung_6 : decode b_Mo_isHung 6 = .ok (.invokevirtual 200, 3) := by decide +kernel
theorem d_Mo_isHung_9 : decode b_Mo_isHung 9 = .ok (.aload_n 0, 1) := by decide +kernel
theorem d_Mo_isHung_10 : decode b_Mo_isHung 10 = .ok (.aload_n 0, 1) := by decide +kernel
theorem d_Mo_isHung_11 : decode b_Mo_isHung 11 = .ok (.getfield 49, 3) := by decide +kernel
theorem d_Mo_isHung_14 : decode b_Mo_isHung 14 = .ok (.invokevirtual 208, 3) := by decide +kernel
theorem d_Mo_isHung_17 : decode b_Mo_isHung 17 = .ok (.ireturn, 1) := by decide +kernel
theorem d_Mo_marked_0 : decode b_Mo_marked 0 = .ok (.aload_n 0, 1) := by decide +kernel
theorem d_Mo_marked_1 : decode b_Mo_marked 1 = .ok (.getfield 71, 3) := by decide +kernel
theorem d_Mo_marked_4 : decode b_Mo_marked 4 = .ok (.iload_n 1, 1) := by decide +kernel
theorem d_Mo_marked_5 : decode b_Mo_marked 5 = .ok (.iaload, 1) := by decide +kernel
theorem d_Mo_marked_6 : decode b_Mo_marked 6 = .ok (.istore_n 2, 1) := by decide +kernel
theorem d_Mo_marked_7 : decode b_Mo_marked 7 = .ok (.aload_n 0, 1) := by decide +kernel
theorem d_Mo_marked_8 : decode b_Mo_marked 8 = .ok (.getfield 74, 3) := by decide +kernel
theorem d_Mo_marked_11 : decode b_Mo_marked 11 = .ok (.iload_n 1, 1) := by decide +kernel
theorem d_Mo_marked_12 : decode b_Mo_marked 12 = .ok (.iaload, 1) := by decide +kernel
theorem d_Mo_marked_13 : decode b_Mo_marked 13 = .ok (.iload_n 2, 1) := by decide +kernel
theorem d_Mo_marked_14 : decode b_Mo_marked 14 = .ok (.isub, 1) := by decide +kernel
theorem d_Mo_marked_15 : decode b_Mo_marked 15 = .ok (.aload_n 0, 1) := by decide +kernel
theorem d_Mo_marked_16 : decode b_Mo_marked 16 = .ok (.getfield 220, 3) := by decide +kernel
theorem d_Mo_marked_19 : decode b_Mo_marked 19 = .ok (.iconst 2, 1) := by decide +kernel
theorem d_Mo_marked_20 : decode b_Mo_marked 20 = .ok (.iadd, 1) := by decide +kernel
theorem d_Mo_marked_21 : decode b_Mo_marked 21 = .ok (.if_icmp .lt 27, 3) := by decide +kernel
theorem d_Mo_marked_24 : decode b_Mo_marked 24 = .ok (.aload_n 0, 1) := by decide +kernel
theorem d_Mo_marked_25 : decode b_Mo_marked 25 = .ok (.getfield 68, 3) := by decide +kernel
theorem d_Mo_marked_28 : decode b_Mo_marked 28 = .ok (.iload_n 2, 1) := by decide +kernel
theorem d_Mo_marked_29 : decode b_Mo_marked 29 = .ok (.baload, 1) := by decide +kernel
theorem d_Mo_marked_30 : decode b_Mo_marked 30 = .ok (.bipush 45, 2) := by decide +kernel
theorem d_Mo_marked_32 : decode b_Mo_marked 32 = .ok (.if_icmp .ne 16, 3) := by decide +kernel
theorem d_Mo_marked_35 : decode b_Mo_marked 35 = .ok (.aload_n 0, 1) := by decide +kernel
theorem d_Mo_marked_36 : decode b_Mo_marked 36 = .ok (.getfield 68, 3) := by decide +kernel
theorem d_Mo_marked_39 : decode b_Mo_marked 39 = .ok (.iload_n 2, 1) := by decide +kernel
theorem d_Mo_marked_40 : decode b_Mo_marked 40 = .ok (.iconst 1, 1) := by decide +kernel
theorem d_Mo_marked_41 : decode b_Mo_marked 41 = .ok (.iadd, 1) := by decide +kernel
theorem d_Mo_marked_42 : decode b_Mo_marked 42 = .ok (.baload, 1) := by decide +kernel
theorem d_Mo_marked_43 : decode b_Mo_marked 43 = .ok (.bipush 45, 2) := by decide +kernel
theorem d_Mo_marked_45 : decode b_Mo_marked 45 = .ok (.if_icmp .eq 5, 3) := by decide +kernel
theorem d_Mo_marked_48 : decode b_Mo_marked 48 = .ok (.iconst 0, 1) := by decide +kernel
theorem d_Mo_marked_49 : decode b_Mo_marked 49 = .ok (.ireturn, 1) := by decide +kernel
theorem d_Mo_marked_50 : decode b_Mo_marked 50 = .ok (.iconst 0, 1) := by decide +kernel
theorem d_Mo_marked_51 : decode b_Mo_marked 51 = .ok (.istore_n 3, 1) := by decide +kernel
theorem d_Mo_marked_52 : decode b_Mo_marked 52 = .ok (.iload_n 3, 1) := by decide +kernel
theorem d_Mo_marked_53 : decode b_Mo_marked 53 = .ok (.aload_n 0, 1) := by decide +kernel
theorem d_Mo_marked_54 : decode b_Mo_marked 54 = .ok (.getfield 220, 3) := by decide +kernel
theorem d_Mo_marked_57 : decode b_Mo_marked 57 = .ok (.if_icmp .ge 30, 3) := by decide +kernel
theorem d_Mo_marked_60 : decode b_Mo_marked 60 = .ok (.aload_n 0, 1) := by decide +kernel
theorem d_Mo_marked_61 : decode b_Mo_marked 61 = .ok (.getfield 68, 3) := by decide +kernel
theorem d_Mo_marked_64 : decode b_Mo_marked 64 = .ok (.iload_n 2, 1) := by decide +kernel
theorem d_Mo_marked_65 : decode b_Mo_marked 65 = .ok (.iconst 2, 1) := by decide +kernel
theorem d_Mo_marked_66 : decode b_Mo_marked 66 = .ok (.iadd, 1) := by decide +kernel
theorem d_Mo_marked_67 : decode b_Mo_marked 67 = .ok (.iload_n 3, 1) := by decide +kernel
theorem d_Mo_marked_68 : decode b_Mo_marked 68 = .ok (.iadd, 1) := by decide +kernel
theorem d_Mo_marked_69 : decode b_Mo_marked 69 = .ok (.baload, 1) := by decide +kernel
theorem d_Mo_marked_70 : decode b_Mo_marked 70 = .ok (.aload_n 0, 1) := by decide +kernel
theorem d_Mo_marked_71 : decode b_Mo_marked 71 = .ok (.getfield 129, 3) := by decide +kernel
theorem d_Mo_marked_74 : decode b_Mo_marked 74 = .ok (.iload_n 3, 1) := by decide +kernel
theorem d_Mo_marked_75 : decode b_Mo_marked 75 = .ok (.baload, 1) := by decide +kernel
theorem d_Mo_marked_76 : decode b_Mo_marked 76 = .ok (.if_icmp .eq 5, 3) := by decide +kernel
theorem d_Mo_marked_79 : decode b_Mo_marked 79 = .ok (.iconst 0, 1) := by decide +kernel
theorem d_Mo_marked_80 : decode b_Mo_marked 80 = .ok (.ireturn, 1) := by decide +kernel
theorem d_Mo_marked_81 : decode b_Mo_marked 81 = .ok (.iinc 3 1, 3) := by decide +kernel
theorem d_Mo_marked_84 : decode b_Mo_marked 84 = .ok (.goto (-32), 3) := by decide +kernel
theorem d_Mo_marked_87 : decode b_Mo_marked 87 = .ok (.iload_n 2, 1) := by decide +kernel
theorem d_Mo_marked_88 : decode b_Mo_marked 88 = .ok (.iconst 2, 1) := by decide +kernel
theorem d_Mo_marked_89 : decode b_Mo_marked 89 = .ok (.aload_n 0, 1) := by decide +kernel
theorem d_Mo_marked_90 : decode b_Mo_marked 90 = .ok (.getfield 220, 3) := by decide +kernel
theorem d_Mo_marked_93 : decode b_Mo_marked 93 = .ok (.iadd, 1) := by decide +kernel
theorem d_Mo_marked_94 : decode b_Mo_marked 94 = .ok (.iadd, 1) := by decide +kernel
theorem d_Mo_marked_95 : decode b_Mo_marked 95 = .ok (.istore_n 2, 1) := by decide +kernel
theorem d_Mo_marked_96 : decode b_Mo_marked 96 = .ok (.iload_n 2, 1) := by decide +kernel
theorem d_Mo_marked_97 : decode b_Mo_marked 97 = .ok (.iconst 1, 1) := by decide +kernel
theorem d_Mo_marked_98 : decode b_Mo_marked 98 = .ok (.iadd, 1) := by decide +kernel
theorem d_Mo_marked_99 : decode b_Mo_marked 99 = .ok (.aload_n 0, 1) := by decide +kernel
theorem d_Mo_marked_100 : decode b_Mo_marked 100 = .ok (.getfield 74, 3) := by decide +kernel
theorem d_Mo_marked_103 : decode b_Mo_marked 103 = .ok (.iload_n 1, 1) := by decide +kernel
theorem d_Mo_marked_104 : decode b_Mo_marked 104 = .ok (.iaload, 1) := by decide +kernel
theorem d_Mo_marked_105 : decode b_Mo_marked 105 = .ok (.if_icmp .ge 31, 3) := by decide +kernel
theorem d_Mo_marked_108 : decode b_Mo_marked 108 = .ok (.aload_n 0, 1) := by decide +kernel
theorem d_Mo_marked_109 : decode b_Mo_marked 109 = .ok (.getfield 68, 3) := by decide +kernel
theorem d_Mo_marked_112 : decode b_Mo_marked 112 = .ok (.iload_n 2, 1) := by decide +kernel
theorem d_Mo_marked_113 : decode b_Mo_marked 113 = .ok (.baload, 1) := by decide +kernel
theorem d_Mo_marked_114 : decode b_Mo_marked 114 = .ok (.bipush 45, 2) := by decide +kernel
theorem d_Mo_marked_116 : decode b_Mo_marked 116 = .ok (.if_icmp .ne 20, 3) := by decide +kernel
theorem d_Mo_marked_119 : decode b_Mo_marked 119 = .ok (.aload_n 0, 1) := by decide +kernel
theorem d_Mo_marked_120 : decode b_Mo_marked 120 = .ok (.getfield 68, 3) := by decide +kernel
theorem d_Mo_marked_123 : decode b_Mo_marked 123 = .ok (.iload_n 2, 1) := by decide +kernel
theorem d_Mo_marked_124 : decode b_Mo_marked 124 = .ok (.iconst 1, 1) := by decide +kernel
theorem d_Mo_marked_125 : decode b_Mo_marked 125 = .ok (.iadd, 1) := by decide +kernel
theorem d_Mo_marked_126 : decode b_Mo_marked 126 = .ok (.baload, 1) := by decide +kernel
theorem d_Mo_marked_127 : decode b_Mo_marked 127 = .ok (.bipush 45, 2) := by decide +kernel
theorem d_Mo_marked_129 : decode b_Mo_marked 129 = .ok (.if_icmp .ne 7, 3) := by decide +kernel
theorem d_Mo_marked_132 : decode b_Mo_marked 132 = .ok (.iconst 1, 1) := by decide +kernel
theorem d_Mo_marked_133 : decode b_Mo_marked 133 = .ok (.goto 4, 3) := by decide +kernel
theorem d_Mo_marked_136 : decode b_Mo_marked 136 = .ok (.iconst 0, 1) := by decide +kernel
theorem d_Mo_marked_137 : decode b_Mo_marked 137 = .ok (.istore_n 3, 1) := by decide +kernel
theorem d_Mo_marked_138 : decode b_Mo_marked 138 = .ok (.iload_n 2, 1) := by decide +kernel
theorem d_Mo_marked_139 : decode b_Mo_marked 139 = .ok (.iload_n 3, 1) := by decide +kernel
theorem d_Mo_marked_140 : decode b_Mo_marked 140 = .ok (.ifCond .eq 7, 3) := by decide +kernel
theorem d_Mo_marked_143 : decode b_Mo_marked 143 = .ok (.iconst 2, 1) := by decide +kernel
theorem d_Mo_marked_144 : decode b_Mo_marked 144 = .ok (.goto 4, 3) := by decide +kernel
theorem d_Mo_marked_147 : decode b_Mo_marked 147 = .ok (.iconst 0, 1) := by decide +kernel
theorem d_Mo_marked_148 : decode b_Mo_marked 148 = .ok (.iadd, 1) := by decide +kernel
theorem d_Mo_marked_149 : decode b_Mo_marked 149 = .ok (.istore_n 2, 1) := by decide +kernel
theorem d_Mo_marked_150 : decode b_Mo_marked 150 = .ok (.iload_n 2, 1) := by decide +kernel
theorem d_Mo_marked_151 : decode b_Mo_marked 151 = .ok (.aload_n 0, 1) := by decide +kernel
theorem d_Mo_marked_152 : decode b_Mo_marked 152 = .ok (.getfield 74, 3) := by decide +kernel
theorem d_Mo_marked_155 : decode b_Mo_marked 155 = .ok (.iload_n 1, 1) := by decide +kernel
theorem d_Mo_marked_156 : decode b_Mo_marked 156 = .ok (.iaload, 1) := by decide +kernel
theorem d_Mo_marked_157 : decode b_Mo_marked 157 = .ok (.if_icmp .ge 21, 3) := by decide +kernel
theorem d_Mo_marked_160 : decode b_Mo_marked 160 = .ok (.aload_n 0, 1) := by decide +kernel
theorem d_Mo_marked_161 : decode b_Mo_marked 161 = .ok (.getfield 68, 3) := by decide +kernel
theorem d_Mo_marked_164 : decode b_Mo_marked 164 = .ok (.iload_n 2, 1) := by decide +kernel
theorem d_Mo_marked_165 : decode b_Mo_marked 165 = .ok (.baload, 1) := by decide +kernel
theorem d_Mo_marked_166 : decode b_Mo_marked 166 = .ok (.invokestatic 153, 3) := by decide +kernel
theorem d_Mo_marked_169 : decode b_Mo_marked 169 = .ok (.ifCond .eq 9, 3) := by decide +kernel
theorem d_Mo_marked_172 : decode b_Mo_marked 172 = .ok (.iinc 2 1, 3) := by decide +kernel
theorem d_Mo_marked_175 : decode b_Mo_marked 175 = .ok (.goto (-25), 3) := by decide +kernel
theorem d_Mo_marked_178 : decode b_Mo_marked 178 = .ok (.iload_n 2, 1) := by decide +kernel
theorem d_Mo_marked_179 : decode b_Mo_marked 179 = .ok (.aload_n 0, 1) := by decide +kernel
theorem d_Mo_marked_180 : decode b_Mo_marked 180 = .ok (.getfield 74, 3) := by decide +kernel
theorem d_Mo_marked_183 : decode b_Mo_marked 183 = .ok (.iload_n 1, 1) := by decide +kernel
theorem d_Mo_marked_184 : decode b_Mo_marked 184 = .ok (.iaload, 1) := by decide +kernel
theorem d_Mo_marked_185 : decode b_Mo_marked 185 = .ok (.if_icmp .ge 7, 3) := by decide +kernel
theorem d_Mo_marked_188 : decode b_Mo_marked 188 = .ok (.iconst 0, 1) := by decide +kernel
theorem d_Mo_marked_189 : decode b_Mo_marked 189 = .ok (.goto 12, 3) := by decide +kernel
theorem d_Mo_marked_192 : decode b_Mo_marked 192 = .ok (.iload_n 3, 1) := by decide +kernel
theorem d_Mo_marked_193 : decode b_Mo_marked 193 = .ok (.ifCond .eq 7, 3) := by decide +kernel
theorem d_Mo_marked_196 : decode b_Mo_marked 196 = .ok (.iconst 2, 1) := by decide +kernel
theorem d_Mo_marked_197 : decode b_Mo_marked 197 = .ok (.goto 4, 3) := by decide +kernel
theorem d_Mo_marked_200 : decode b_Mo_marked 200 = .ok (.iconst 1, 1) := by decide +kernel
theorem d_Mo_marked_201 : decode b_Mo_marked 201 = .ok (.ireturn, 1) := by decide +kernel
theorem d_Mo_findParts_0 : decode b_Mo_findParts 0 = .ok (.aload_n 0, 1) := by decide +kernel
theorem d_Mo_findParts_1 : decode b_Mo_findParts 1 = .ok (.iconst 0, 1) := by decide +kernel
theorem d_Mo_findParts_2 : decode b_Mo_findParts 2 = .ok (.putfield 223, 3) := by decide +kernel
theorem d_Mo_findParts_5 : decode b_Mo_findParts 5 = .ok (.iconst (-1), 1) := by decide +kernel
theorem d_Mo_findParts_6 : decode b_Mo_findParts 6 = .ok (.istore_n 2, 1) := by decide +kernel
theorem d_Mo_findParts_7 : decode b_Mo_findParts 7 = .ok (.aload_n 0, 1) := by decide +kernel
theorem d_Mo_findParts_8 : decode b_Mo_findParts 8 = .ok (.getfield 86, 3) := by decide +kernel
theorem d_Mo_findParts_11 : decode b_Mo_findParts 11 = .ok (.iload_n 1, 1) := by decide +kernel
theorem d_Mo_findParts_12 : decode b_Mo_findParts 12 = .ok (.iaload, 1) := by decide +kernel
theorem d_Mo_findParts_13 : decode b_Mo_findParts 13 = .ok (.istore_n 3, 1) := by decide +kernel
theorem d_Mo_findParts_14 : decode b_Mo_findParts 14 = .ok (.iconst 1, 1) := by decide +kernel
theorem d_Mo_findParts_15 : decode b_Mo_findParts 15 = .ok (.istore 4, 2) := by decide +kernel
theorem d_Mo_findParts_17 : decode b_Mo_findParts 17 = .ok (.iload_n 3, 1) := by decide +kernel
theorem d_Mo_findParts_18 : decode b_Mo_findParts 18 = .ok (.aload_n 0, 1) := by decide +kernel
theorem d_Mo_findParts_19 : decode b_Mo_findParts 19 = .ok (.getfield 80, 3) := by decide +kernel
theorem d_Mo_findParts_22 : decode b_Mo_findParts 22 = .ok (.iload_n 1, 1) := by decide +kernel
theorem d_Mo_findParts_23 : decode b_Mo_findParts 23 = .ok (.iaload, 1) := by decide +kernel
theorem d_Mo_findParts_24 : decode b_Mo_findParts 24 = .ok (.if_icmp .ge 69, 3) := by decide +kernel
theorem d_Mo_findParts_27 : decode b_Mo_findParts 27 = .ok (.iload 4, 2) := by decide +kernel
theorem d_Mo_findParts_29 : decode b_Mo_findParts 29 = .ok (.ifCond .eq 64, 3) := by decide +kernel
theorem d_Mo_findParts_32 : decode b_Mo_findParts 32 = .ok (.aload_n 0, 1) := by decide +kernel
theorem d_Mo_findParts_33 : decode b_Mo_findParts 33 = .ok (.iload_n 3, 1) := by decide +kernel
theorem d_Mo_findParts_34 : decode b_Mo_findParts 34 = .ok (.invokevirtual 226, 3) := by decide +kernel
theorem d_Mo_findParts_37 : decode b_Mo_findParts 37 = .ok (.istore 5, 2) := by decide +kernel
theorem d_Mo_findParts_39 : decode b_Mo_findParts 39 = .ok (.iload 5, 2) := by decide +kernel
theorem d_Mo_findParts_41 : decode b_Mo_findParts 41 = .ok (.ifCond .le 14, 3) := by decide +kernel
theorem d_Mo_findParts_44 : decode b_Mo_findParts 44 = .ok (.iload_n 2, 1) := by decide +kernel
theorem d_Mo_findParts_45 : decode b_Mo_findParts 45 = .ok (.iconst (-1), 1) := by decide +kernel
theorem d_Mo_findParts_46 : decode b_Mo_findParts 46 = .ok (.if_icmp .eq 9, 3) := by decide +kernel
theorem d_Mo_findParts_49 : decode b_Mo_findParts 49 = .ok (.aload_n 0, 1) := by decide +kernel
theorem d_Mo_findParts_50 : decode b_Mo_findParts 50 = .ok (.iload_n 2, 1) := by decide +kernel
theorem d_Mo_findParts_51 : decode b_Mo_findParts 51 = .ok (.iload_n 3, 1) := by decide +kernel
theorem d_Mo_findParts_52 : decode b_Mo_findParts 52 = .ok (.invokevirtual 229, 3) := by decide +kernel
theorem d_Mo_findParts_55 : decode b_Mo_findParts 55 = .ok (.iload 5, 2) := by decide +kernel
theorem d_Mo_findParts_57 : decode b_Mo_findParts 57 = .ok (.ifCond .le 17, 3) := by decide +kernel
theorem d_Mo_findParts_60 : decode b_Mo_findParts 60 = .ok (.iload 5, 2) := by decide +kernel
theorem d_Mo_findParts_62 : decode b_Mo_findParts 62 = .ok (.iconst 1, 1) := by decide +kernel
theorem d_Mo_findParts_63 : decode b_Mo_findParts 63 = .ok (.if_icmp .ne 9, 3) := by decide +kernel
theorem d_Mo_findParts_66 : decode b_Mo_findParts 66 = .ok (.iload_n 3, 1) := by decide +kernel
theorem d_Mo_findParts_67 : decode b_Mo_findParts 67 = .ok (.iconst 1, 1) := by decide +kernel
theorem d_Mo_findParts_68 : decode b_Mo_findParts 68 = .ok (.iadd, 1) := by decide +kernel
theorem d_Mo_findParts_69 : decode b_Mo_findParts 69 = .ok (.goto 4, 3) := by decide +kernel
theorem d_Mo_findParts_72 : decode b_Mo_findParts 72 = .ok (.iconst (-1), 1) := by decide +kernel
theorem d_Mo_findParts_73 : decode b_Mo_findParts 73 = .ok (.istore_n 2, 1) := by decide +kernel
theorem d_Mo_findParts_74 : decode b_Mo_findParts 74 = .ok (.iload 5, 2) := by decide +kernel
theorem d_Mo_findParts_76 : decode b_Mo_findParts 76 = .ok (.iconst 2, 1) := by decide +kernel
theorem d_Mo_findParts_77 : decode b_Mo_findParts 77 = .ok (.if_icmp .eq 7, 3) := by decide +kernel
theorem d_Mo_findParts_80 : decode b_Mo_findParts 80 = .ok (.iconst 1, 1) := by decide +kernel
theorem d_Mo_findParts_81 : decode b_Mo_findParts 81 = .ok (.goto 4, 3) := by decide +kernel
theorem d_Mo_findParts_84 : decode b_Mo_findParts 84 = .ok (.iconst 0, 1) := by decide +kernel
theorem d_Mo_findParts_85 : decode b_Mo_findParts 85 = .ok (.istore 4, 2) := by decide +kernel
theorem d_Mo_findParts_87 : decode b_Mo_findParts 87 = .ok (.iinc 3 1, 3) := by decide +kernel
theorem d_Mo_findParts_90 : decode b_Mo_findParts 90 = .ok (.goto (-73), 3) := by decide +kernel
theorem d_Mo_findParts_93 : decode b_Mo_findParts 93 = .ok (.iload_n 2, 1) := by decide +kernel
theorem d_Mo_findParts_94 : decode b_Mo_findParts 94 = .ok (.iconst (-1), 1) := by decide +kernel
theorem d_Mo_findParts_95 : decode b_Mo_findParts 95 = .ok (.if_icmp .eq 14, 3) := by decide +kernel
theorem d_Mo_findParts_98 : decode b_Mo_findParts 98 = .ok (.aload_n 0, 1) := by decide +kernel
theorem d_Mo_findParts_99 : decode b_Mo_findParts 99 = .ok (.iload_n 2, 1) := by decide +kernel
theorem d_Mo_findParts_100 : decode b_Mo_findParts 100 = .ok (.aload_n 0, 1) := by decide +kernel
theorem d_Mo_findParts_101 : decode b_Mo_findParts 101 = .ok (.getfield 80, 3) := by decide +kernel
theorem d_Mo_findParts_104 : decode b_Mo_findParts 104 = .ok (.iload_n 1, 1) := by decide +kernel
theorem d_Mo_findParts_105 : decode b_Mo_findParts 105 = .ok (.iaload, 1) := by decide +kernel
theorem d_Mo_findParts_106 : decode b_Mo_findParts 106 = .ok (.invokevirtual 229, 3) := by decide +kernel
theorem d_Mo_findParts_109 : decode b_Mo_findParts 109 = .ok (.return_, 1) := by decide +kernel
theorem d_Mo_add_0 : decode b_Mo_add 0 = .ok (.aload_n 0, 1) := by decide +kernel
theorem d_Mo_add_1 : decode b_Mo_add 1 = .ok (.getfield 111, 3) := by decide +kernel
theorem d_Mo_add_4 : decode b_Mo_add 4 = .ok (.aload_n 0, 1) := by decide +kernel
theorem d_Mo_add_5 : decode b_Mo_add 5 = .ok (.getfield 223, 3) := by decide +kernel
theorem d_Mo_add_8 : decode b_Mo_add 8 = .ok (.iload_n 1, 1) := by decide +kernel
theorem d_Mo_add_9 : decode b_Mo_add 9 = .ok (.iastore, 1) := by decide +kernel
theorem d_Mo_add_10 : decode b_Mo_add 10 = .ok (.aload_n 0, 1) := by decide +kernel
theorem d_Mo_add_11 : decode b_Mo_add 11 = .ok (.getfield 114, 3) := by decide +kernel
theorem d_Mo_add_14 : decode b_Mo_add 14 = .ok (.aload_n 0, 1) := by decide +kernel
theorem d_Mo_add_15 : decode b_Mo_add 15 = .ok (.getfield 223, 3) := by decide +kernel
theorem d_Mo_add_18 : decode b_Mo_add 18 = .ok (.iload_n 2, 1) := by decide +kernel
theorem d_Mo_add_19 : decode b_Mo_add 19 = .ok (.iastore, 1) := by decide +kernel
theorem d_Mo_add_20 : decode b_Mo_add 20 = .ok (.aload_n 0, 1) := by decide +kernel
theorem d_Mo_add_21 : decode b_Mo_add 21 = .ok (.dup, 1) := by decide +kernel
theorem d_Mo_add_22 : decode b_Mo_add 22 = .ok (.getfield 223, 3) := by decide +kernel
theorem d_Mo_add_25 : decode b_Mo_add 25 = .ok (.iconst 1, 1) := by decide +kernel
theorem d_Mo_add_26 : decode b_Mo_add 26 = .ok (.iadd, 1) := by decide +kernel
theorem d_Mo_add_27 : decode b_Mo_add 27 = .ok (.putfield 223, 3) := by decide +kernel
theorem d_Mo_add_30 : decode b_Mo_add 30 = .ok (.return_, 1) := by decide +kernel
theorem d_Mo_push_0 : decode b_Mo_push 0 = .ok (.aload_n 0, 1) := by decide +kernel
theorem d_Mo_push_1 : decode b_Mo_push 1 = .ok (.getfield 102, 3) := by decide +kernel
theorem d_Mo_push_4 : decode b_Mo_push 4 = .ok (.aload_n 0, 1) := by decide +kernel
theorem d_Mo_push_5 : decode b_Mo_push 5 = .ok (.getfield 232, 3) := by decide +kernel
theorem d_Mo_push_8 : decode b_Mo_push 8 = .ok (.iload_n 1, 1) := by decide +kernel
theorem d_Mo_push_9 : decode b_Mo_push 9 = .ok (.iastore, 1) := by decide +kernel
theorem d_Mo_push_10 : decode b_Mo_push 10 = .ok (.aload_n 0, 1) := by decide +kernel
theorem d_Mo_push_11 : decode b_Mo_push 11 = .ok (.getfield 105, 3) := by decide +kernel
theorem d_Mo_push_14 : decode b_Mo_push 14 = .ok (.aload_n 0, 1) := by decide +kernel
theorem d_Mo_push_15 : decode b_Mo_push 15 = .ok (.getfield 232, 3) := by decide +kernel
theorem d_Mo_push_18 : decode b_Mo_push 18 = .ok (.iload_n 2, 1) := by decide +kernel
theorem d_Mo_push_19 : decode b_Mo_push 19 = .ok (.iastore, 1) := by decide +kernel
theorem d_Mo_push_20 : decode b_Mo_push 20 = .ok (.aload_n 0, 1) := by decide +kernel
theorem d_Mo_push_21 : decode b_Mo_push 21 = .ok (.getfield 108, 3) := by decide +kernel
theorem d_Mo_push_24 : decode b_Mo_push 24 = .ok (.aload_n 0, 1) := by decide +kernel
theorem d_Mo_push_25 : decode b_Mo_push 25 = .ok (.getfield 232, 3) := by decide +kernel
theorem d_Mo_push_28 : decode b_Mo_push 28 = .ok (.iload_n 3, 1) := by decide +kernel
theorem d_Mo_push_29 : decode b_Mo_push 29 = .ok (.iastore, 1) := by decide +kernel
theorem d_Mo_push_30 : decode b_Mo_push 30 = .ok (.aload_n 0, 1) := by decide +kernel
theorem d_Mo_push_31 : decode b_Mo_push 31 = .ok (.dup, 1) := by decide +kernel
theorem d_Mo_push_32 : decode b_Mo_push 32 = .ok (.getfield 232, 3) := by decide +kernel
theorem d_Mo_push_35 : decode b_Mo_push 35 = .ok (.iconst 1, 1) := by decide +kernel
theorem d_Mo_push_36 : decode b_Mo_push 36 = .ok (.iadd, 1) := by decide +kernel
theorem d_Mo_push_37 : decode b_Mo_push 37 = .ok (.putfield 232, 3) := by decide +kernel
theorem d_Mo_push_40 : decode b_Mo_push 40 = .ok (.return_, 1) := by decide +kernel
theorem d_Mo_isMulti_0 : decode b_Mo_isMulti 0 = .ok (.aload_n 0, 1) := by decide +kernel
theorem d_Mo_isMulti_1 : decode b_Mo_isMulti 1 = .ok (.iload_n 1, 1) := by decide +kernel
theorem d_Mo_isMulti_2 : decode b_Mo_isMulti 2 = .ok (.invokevirtual 235, 3) := by decide +kernel
theorem d_Mo_isMulti_5 : decode b_Mo_isMulti 5 = .ok (.aload_n 0, 1) := by decide +kernel
theorem d_Mo_isMulti_6 : decode b_Mo_isMulti 6 = .ok (.aload_n 0, 1) := by decide +kernel
theorem d_Mo_isMulti_7 : decode b_Mo_isMulti 7 = .ok (.getfield 37, 3) := by decide +kernel
theorem d_Mo_isMulti_10 : decode b_Mo_isMulti 10 = .ok (.invokevirtual 239, 3) := by decide +kernel
theorem d_Mo_isMulti_13 : decode b_Mo_isMulti 13 = .ok (.ifCond .eq 36, 3) := by decide +kernel
theorem d_Mo_isMulti_16 : decode b_Mo_isMulti 16 = .ok (.aload_n 0, 1) := by decide +kernel
theorem d_Mo_isMulti_17 : decode b_Mo_isMulti 17 = .ok (.iload_n 1, 1) := by decide +kernel
theorem d_Mo_isMulti_18 : decode b_Mo_isMulti 18 = .ok (.aload_n 0, 1) := by decide +kernel
theorem d_Mo_isMulti_19 : decode b_Mo_isMulti 19 = .ok (.getfield 7, 3) := by decide +kernel
theorem d_Mo_isMulti_22 : decode b_Mo_isMulti 22 = .ok (.aload_n 0, 1) := by decide +kernel
theorem d_Mo_isMulti_23 : decode b_Mo_isMulti 23 = .ok (.getfield 7, 3) := by decide +kernel
theorem d_Mo_isMulti_26 : decode b_Mo_isMulti 26 = .ok (.arraylength, 1) := by decide +kernel
theorem d_Mo_isMulti_27 : decode b_Mo_isMulti 27 = .ok (.invokevirtual 186, 3) := by decide +kernel
theorem d_Mo_isMulti_30 : decode b_Mo_isMulti 30 = .ok (.ifCond .eq 19, 3) := by decide +kernel
theorem d_Mo_isMulti_33 : decode b_Mo_isMulti 33 = .ok (.aload_n 0, 1) := by decide +kernel
theorem d_Mo_isMulti_34 : decode b_Mo_isMulti 34 = .ok (.aload_n 0, 1) := by decide +kernel
theorem d_Mo_isMulti_35 : decode b_Mo_isMulti 35 = .ok (.getfield 19, 3) := by decide +kernel
theorem d_Mo_isMulti_38 : decode b_Mo_isMulti 38 = .ok (.aload_n 0, 1) := by decide +kernel
theorem d_Mo_isMulti_39 : decode b_Mo_isMulti 39 = .ok (.getfield 19, 3) := by decide +kernel
theorem d_Mo_isMulti_42 : decode b_Mo_isMulti 42 = .ok (.arraylength, 1) := by decide +kernel
theorem d_Mo_isMulti_43 : decode b_Mo_isMulti 43 = .ok (.invokevirtual 216, 3) := by decide +kernel
theorem d_Mo_isMulti_46 : decode b_Mo_isMulti 46 = .ok (.ifCond .ne 5, 3) := by decide +kernel
theorem d_Mo_isMulti_49 : decode b_Mo_isMulti 49 = .ok (.iconst 0, 1) := by decide +kernel
theorem d_Mo_isMulti_50 : decode b_Mo_isMulti 50 = .ok (.ireturn, 1) := by decide +kernel
theorem d_Mo_isMulti_51 : decode b_Mo_isMulti 51 = .ok (.aload_n 0, 1) := by decide +kernel
theorem d_Mo_isMulti_52 : decode b_Mo_isMulti 52 = .ok (.aload_n 0, 1) := by decide +kernel
theorem d_Mo_isMulti_53 : decode b_Mo_isMulti 53 = .ok (.getfield 180, 3) := by decide +kernel
theorem d_Mo_isMulti_56 : decode b_Mo_isMulti 56 = .ok (.putfield 220, 3) := by decide +kernel
theorem d_Mo_isMulti_59 : decode b_Mo_isMulti 59 = .ok (.iconst 0, 1) := by decide +kernel
theorem d_Mo_isMulti_60 : decode b_Mo_isMulti 60 = .ok (.istore_n 2, 1) := by decide +kernel
theorem d_Mo_isMulti_61 : decode b_Mo_isMulti 61 = .ok (.iload_n 2, 1) := by decide +kernel
theorem d_Mo_isMulti_62 : decode b_Mo_isMulti 62 = .ok (.aload_n 0, 1) := by decide +kernel
theorem d_Mo_isMulti_63 : decode b_Mo_isMulti 63 = .ok (.getfield 180, 3) := by decide +kernel
theorem d_Mo_isMulti_66 : decode b_Mo_isMulti 66 = .ok (.if_icmp .ge 21, 3) := by decide +kernel
theorem d_Mo_isMulti_69 : decode b_Mo_isMulti 69 = .ok (.aload_n 0, 1) := by decide +kernel
theorem d_Mo_isMulti_70 : decode b_Mo_isMulti 70 = .ok (.getfield 129, 3) := by decide +kernel
theorem d_Mo_isMulti_73 : decode b_Mo_isMulti 73 = .ok (.iload_n 2, 1) := by decide +kernel
theorem d_Mo_isMulti_74 : decode b_Mo_isMulti 74 = .ok (.aload_n 0, 1) := by decide +kernel
theorem d_Mo_isMulti_75 : decode b_Mo_isMulti 75 = .ok (.getfield 126, 3) := by decide +kernel
theorem d_Mo_isMulti_78 : decode b_Mo_isMulti 78 = .ok (.iload_n 2, 1) := by decide +kernel
theorem d_Mo_isMulti_79 : decode b_Mo_isMulti 79 = .ok (.baload, 1) := by decide +kernel
theorem d_Mo_isMulti_80 : decode b_Mo_isMulti 80 = .ok (.bastore, 1) := by decide +kernel
theorem d_Mo_isMulti_81 : decode b_Mo_isMulti 81 = .ok (.iinc 2 1, 3) := by decide +kernel
theorem d_Mo_isMulti_84 : decode b_Mo_isMulti 84 = .ok (.goto (-23), 3) := by decide +kernel
theorem d_Mo_isMulti_87 : decode b_Mo_isMulti 87 = .ok (.aload_n 0, 1) := by decide +kernel
theorem d_Mo_isMulti_88 : decode b_Mo_isMulti 88 = .ok (.getfield 220, 3) := by decide +kernel
theorem d_Mo_isMulti_91 : decode b_Mo_isMulti 91 = .ok (.iconst 1, 1) := by decide +kernel
theorem d_Mo_isMulti_92 : decode b_Mo_isMulti 92 = .ok (.if_icmp .lt 16, 3) := by decide +kernel
theorem d_Mo_isMulti_95 : decode b_Mo_isMulti 95 = .ok (.aload_n 0, 1) := by decide +kernel
theorem d_Mo_isMulti_96 : decode b_Mo_isMulti 96 = .ok (.getfield 220, 3) := by decide +kernel
theorem d_Mo_isMulti_99 : decode b_Mo_isMulti 99 = .ok (.bipush 70, 2) := by decide +kernel
theorem d_Mo_isMulti_101 : decode b_Mo_isMulti 101 = .ok (.if_icmp .gt 7, 3) := by decide +kernel
theorem d_Mo_isMulti_104 : decode b_Mo_isMulti 104 = .ok (.iconst 1, 1) := by decide +kernel
theorem d_Mo_isMulti_105 : decode b_Mo_isMulti 105 = .ok (.goto 4, 3) := by decide +kernel
theorem d_Mo_isMulti_108 : decode b_Mo_isMulti 108 = .ok (.iconst 0, 1) := by decide +kernel
theorem d_Mo_isMulti_109 : decode b_Mo_isMulti 109 = .ok (.ireturn, 1) := by decide +kernel
theorem d_Mo_isEnclosed_0 : decode b_Mo_isEnclosed 0 = .ok (.aload_n 0, 1) := by decide +kernel
theorem d_Mo_isEnclosed_1 : decode b_Mo_isEnclosed 1 = .ok (.iload_n 1, 1) := by decide +kernel
theorem d_Mo_isEnclosed_2 : decode b_Mo_isEnclosed 2 = .ok (.invokevirtual 235, 3) := by decide +kernel
theorem d_Mo_isEnclosed_5 : decode b_Mo_isEnclosed 5 = .ok (.aload_n 0, 1) := by decide +kernel
theorem d_Mo_isEnclosed_6 : decode b_Mo_isEnclosed 6 = .ok (.aload_n 0, 1) := by decide +kernel
theorem d_Mo_isEnclosed_7 : decode b_Mo_isEnclosed 7 = .ok (.getfield 46, 3) := by decide +kernel
theorem d_Mo_isEnclosed_10 : decode b_Mo_isEnclosed 10 = .ok (.invokevirtual 208, 3) := by decide +kernel
theorem d_Mo_isEnclosed_13 : decode b_Mo_isEnclosed 13 = .ok (.ifCond .ne 5, 3) := by decide +kernel
theorem d_Mo_isEnclosed_16 : decode b_Mo_isEnclosed 16 = .ok (.iconst 0, 1) := by decide +kernel
theorem d_Mo_isEnclosed_17 : decode b_Mo_isEnclosed 17 = .ok (.ireturn, 1) := by decide +kernel
theorem d_Mo_isEnclosed_18 : decode b_Mo_isEnclosed 18 = .ok (.aload_n 0, 1) := by decide +kernel
theorem d_Mo_isEnclosed_19 : decode b_Mo_isEnclosed 19 = .ok (.iload_n 1, 1) := by decide +kernel
theorem d_Mo_isEnclosed_20 : decode b_Mo_isEnclosed 20 = .ok (.aload_n 0, 1) := by decide +kernel
theorem d_Mo_isEnclosed_21 : decode b_Mo_isEnclosed 21 = .ok (.getfield 13, 3) := by decide +kernel
theorem d_Mo_isEnclosed_24 : decode b_Mo_isEnclosed 24 = .ok (.invokevirtual 200, 3) := by decide +kernel
theorem d_Mo_isEnclosed_27 : decode b_Mo_isEnclosed 27 = .ok (.aload_n 0, 1) := by decide +kernel
theorem d_Mo_isEnclosed_28 : decode b_Mo_isEnclosed 28 = .ok (.getfield 180, 3) := by decide +kernel
theorem d_Mo_isEnclosed_31 : decode b_Mo_isEnclosed 31 = .ok (.ifCond .eq 36, 3) := by decide +kernel
theorem d_Mo_isEnclosed_34 : decode b_Mo_isEnclosed 34 = .ok (.aload_n 0, 1) := by decide +kernel
theorem d_Mo_isEnclosed_35 : decode b_Mo_isEnclosed 35 = .ok (.aload_n 0, 1) := by decide +kernel
theorem d_Mo_isEnclosed_36 : decode b_Mo_isEnclosed 36 = .ok (.getfield 52, 3) := by decide +kernel
theorem d_Mo_isEnclosed_39 : decode b_Mo_isEnclosed 39 = .ok (.invokevirtual 208, 3) := by decide +kernel
theorem d_Mo_isEnclosed_42 : decode b_Mo_isEnclosed 42 = .ok (.ifCond .ne 25, 3) := by decide +kernel
theorem d_Mo_isEnclosed_45 : decode b_Mo_isEnclosed 45 = .ok (.aload_n 0, 1) := by decide +kernel
theorem d_Mo_isEnclosed_46 : decode b_Mo_isEnclosed 46 = .ok (.aload_n 0, 1) := by decide +kernel
theorem d_Mo_isEnclosed_47 : decode b_Mo_isEnclosed 47 = .ok (.getfield 55, 3) := by decide +kernel
theorem d_Mo_isEnclosed_50 : decode b_Mo_isEnclosed 50 = .ok (.invokevirtual 208, 3) := by decide +kernel
theorem d_Mo_isEnclosed_53 : decode b_Mo_isEnclosed 53 = .ok (.ifCond .ne 14, 3) := by decide +kernel
theorem d_Mo_isEnclosed_56 : decode b_Mo_isEnclosed 56 = .ok (.aload_n 0, 1) := by decide +kernel
theorem d_Mo_isEnclosed_57 : decode b_Mo_isEnclosed 57 = .ok (.aload_n 0, 1) := by decide +kernel
theorem d_Mo_isEnclosed_58 : decode b_Mo_isEnclosed 58 = .ok (.getfield 58, 3) := by decide +kernel
theorem d_Mo_isEnclosed_61 : decode b_Mo_isEnclosed 61 = .ok (.invokevirtual 208, 3) := by decide +kernel
theorem d_Mo_isEnclosed_64 : decode b_Mo_isEnclosed 64 = .ok (.ifCond .eq 7, 3) := by decide +kernel
theorem d_Mo_isEnclosed_67 : decode b_Mo_isEnclosed 67 = .ok (.iconst 1, 1) := by decide +kernel
theorem d_Mo_isEnclosed_68 : decode b_Mo_isEnclosed 68 = .ok (.goto 4, 3) := by decide +kernel
theorem d_Mo_isEnclosed_71 : decode b_Mo_isEnclosed 71 = .ok (.iconst 0, 1) := by decide +kernel
theorem d_Mo_isEnclosed_72 : decode b_Mo_isEnclosed 72 = .ok (.ireturn, 1) := by decide +kernel
theorem d_Mo_look_0 : decode b_Mo_look 0 = .ok (.aload_n 0, 1) := by decide +kernel
theorem d_Mo_look_1 : decode b_Mo_look 1 = .ok (.iload_n 1, 1) := by decide +kernel
theorem d_Mo_look_2 : decode b_Mo_look 2 = .ok (.invokevirtual 242, 3) := by decide +kernel
theorem d_Mo_look_5 : decode b_Mo_look 5 = .ok (.aload_n 0, 1) := by decide +kernel
theorem d_Mo_look_6 : decode b_Mo_look 6 = .ok (.getfield 95, 3) := by decide +kernel
theorem d_Mo_look_9 : decode b_Mo_look 9 = .ok (.iload_n 1, 1) := by decide +kernel
theorem d_Mo_look_10 : decode b_Mo_look 10 = .ok (.iconst 0, 1) := by decide +kernel
theorem d_Mo_look_11 : decode b_Mo_look 11 = .ok (.iastore, 1) := by decide +kernel
theorem d_Mo_look_12 : decode b_Mo_look 12 = .ok (.aload_n 0, 1) := by decide +kernel
theorem d_Mo_look_13 : decode b_Mo_look 13 = .ok (.getfield 92, 3) := by decide +kernel
theorem d_Mo_look_16 : decode b_Mo_look 16 = .ok (.iload_n 1, 1) := by decide +kernel
theorem d_Mo_look_17 : decode b_Mo_look 17 = .ok (.iaload, 1) := by decide +kernel
theorem d_Mo_look_18 : decode b_Mo_look 18 = .ok (.bipush 8, 2) := by decide +kernel
theorem d_Mo_look_20 : decode b_Mo_look 20 = .ok (.if_icmp .lt 4, 3) := by decide +kernel
theorem d_Mo_look_23 : decode b_Mo_look 23 = .ok (.return_, 1) := by decide +kernel
theorem d_Mo_look_24 : decode b_Mo_look 24 = .ok (.aload_n 0, 1) := by decide +kernel
theorem d_Mo_look_25 : decode b_Mo_look 25 = .ok (.iload_n 1, 1) := by decide +kernel
theorem d_Mo_look_26 : decode b_Mo_look 26 = .ok (.invokevirtual 245, 3) := by decide +kernel
theorem d_Mo_look_29 : decode b_Mo_look 29 = .ok (.ifCond .eq 52, 3) := by decide +kernel
theorem d_Mo_look_32 : decode b_Mo_look 32 = .ok (.aload_n 0, 1) := by decide +kernel
theorem d_Mo_look_33 : decode b_Mo_look 33 = .ok (.getfield 95, 3) := by decide +kernel
theorem d_Mo_look_36 : decode b_Mo_look 36 = .ok (.iload_n 1, 1) := by decide +kernel
theorem d_Mo_look_37 : decode b_Mo_look 37 = .ok (.iconst 1, 1) := by decide +kernel
theorem d_Mo_look_38 : decode b_Mo_look 38 = .ok (.iastore, 1) := by decide +kernel
theorem d_Mo_look_39 : decode b_Mo_look 39 = .ok (.aload_n 0, 1) := by decide +kernel
theorem d_Mo_look_40 : decode b_Mo_look 40 = .ok (.iload_n 1, 1) := by decide +kernel
theorem d_Mo_look_41 : decode b_Mo_look 41 = .ok (.invokevirtual 248, 3) := by decide +kernel
theorem d_Mo_look_44 : decode b_Mo_look 44 = .ok (.aload_n 0, 1) := by decide +kernel
theorem d_Mo_look_45 : decode b_Mo_look 45 = .ok (.getfield 223, 3) := by decide +kernel
theorem d_Mo_look_48 : decode b_Mo_look 48 = .ok (.iconst 1, 1) := by decide +kernel
theorem d_Mo_look_49 : decode b_Mo_look 49 = .ok (.isub, 1) := by decide +kernel
theorem d_Mo_look_50 : decode b_Mo_look 50 = .ok (.istore_n 2, 1) := by decide +kernel
theorem d_Mo_look_51 : decode b_Mo_look 51 = .ok (.iload_n 2, 1) := by decide +kernel
theorem d_Mo_look_52 : decode b_Mo_look 52 = .ok (.ifCond .lt 26, 3) := by decide +kernel
theorem d_Mo_look_55 : decode b_Mo_look 55 = .ok (.aload_n 0, 1) := by decide +kernel
theorem d_Mo_look_56 : decode b_Mo_look 56 = .ok (.aload_n 0, 1) := by decide +kernel
theorem d_Mo_look_57 : decode b_Mo_look 57 = .ok (.getfield 111, 3) := by decide +kernel
theorem d_Mo_look_60 : decode b_Mo_look 60 = .ok (.iload_n 2, 1) := by decide +kernel
theorem d_Mo_look_61 : decode b_Mo_look 61 = .ok (.iaload, 1) := by decide +kernel
theorem d_Mo_look_62 : decode b_Mo_look 62 = .ok (.aload_n 0, 1) := by decide +kernel
theorem d_Mo_look_63 : decode b_Mo_look 63 = .ok (.getfield 114, 3) := by decide +kernel
theorem d_Mo_look_66 : decode b_Mo_look 66 = .ok (.iload_n 2, 1) := by decide +kernel
theorem d_Mo_look_67 : decode b_Mo_look 67 = .ok (.iaload, 1) := by decide +kernel
theorem d_Mo_look_68 : decode b_Mo_look 68 = .ok (.iload_n 1, 1) := by decide +kernel
theorem d_Mo_look_69 : decode b_Mo_look 69 = .ok (.invokevirtual 251, 3) := by decide +kernel
theorem d_Mo_look_72 : decode b_Mo_look 72 = .ok (.iinc 2 (-1), 3) := by decide +kernel
theorem d_Mo_look_75 : decode b_Mo_look 75 = .ok (.goto (-24), 3) := by decide +kernel
theorem d_Mo_look_78 : decode b_Mo_look 78 = .ok (.goto 35, 3) := by decide +kernel
theorem d_Mo_look_81 : decode b_Mo_look 81 = .ok (.aload_n 0, 1) := by decide +kernel
theorem d_Mo_look_82 : decode b_Mo_look 82 = .ok (.iload_n 1, 1) := by decide +kernel
theorem d_Mo_look_83 : decode b_Mo_look 83 = .ok (.invokevirtual 255, 3) := by decide +kernel
theorem d_Mo_look_86 : decode b_Mo_look 86 = .ok (.ifCond .eq 27, 3) := by decide +kernel
theorem d_Mo_look_89 : decode b_Mo_look 89 = .ok (.aload_n 0, 1) := by decide +kernel
theorem d_Mo_look_90 : decode b_Mo_look 90 = .ok (.getfield 95, 3) := by decide +kernel
theorem d_Mo_look_93 : decode b_Mo_look 93 = .ok (.iload_n 1, 1) := by decide +kernel
theorem d_Mo_look_94 : decode b_Mo_look 94 = .ok (.iconst 2, 1) := by decide +kernel
theorem d_Mo_look_95 : decode b_Mo_look 95 = .ok (.iastore, 1) := by decide +kernel
theorem d_Mo_look_96 : decode b_Mo_look 96 = .ok (.aload_n 0, 1) := by decide +kernel
theorem d_Mo_look_97 : decode b_Mo_look 97 = .ok (.aload_n 0, 1) := by decide +kernel
theorem d_Mo_look_98 : decode b_Mo_look 98 = .ok (.getfield 86, 3) := by decide +kernel
theorem d_Mo_look_101 : decode b_Mo_look 101 = .ok (.iload_n 1, 1) := by decide +kernel
theorem d_Mo_look_102 : decode b_Mo_look 102 = .ok (.iaload, 1) := by decide +kernel
theorem d_Mo_look_103 : decode b_Mo_look 103 = .ok (.aload_n 0, 1) := by decide +kernel
theorem d_Mo_look_104 : decode b_Mo_look 104 = .ok (.getfield 80, 3) := by decide +kernel
theorem d_Mo_look_107 : decode b_Mo_look 107 = .ok (.iload_n 1, 1) := by decide +kernel
theorem d_Mo_look_108 : decode b_Mo_look 108 = .ok (.iaload, 1) := by decide +kernel
theorem d_Mo_look_109 : decode b_Mo_look 109 = .ok (.iload_n 1, 1) := by decide +kernel
theorem d_Mo_look_110 : decode b_Mo_look 110 = .ok (.invokevirtual 251, 3) := by decide +kernel
theorem d_Mo_look_113 : decode b_Mo_look 113 = .ok (.return_, 1) := by decide +kernel
end
section
theorem d_Mo_build_0 : decode b_Mo_build 0 = .ok (.aload_n 0, 1) := by decide +kernel
theorem d_Mo_build_1 : decode b_Mo_build 1 = .ok (.iconst 0, 1) := by decide +kernel
theorem d_Mo_build_2 : decode b_Mo_build 2 = .ok (.putfield 258, 3) := by decide +kernel
theorem d_Mo_build_5 : decode b_Mo_build 5 = .ok (.aload_n 0, 1) := by decide +kernel
theorem d_Mo_build_6 : decode b_Mo_build 6 = .ok (.iconst 0, 1) := by decide +kernel
theorem d_Mo_build_7 : decode b_Mo_build 7 = .ok (.putfield 261, 3) := by decide +kernel
theorem d_Mo_build_10 : decode b_Mo_build 10 = .ok (.aload_n 0, 1) := by decide +kernel
theorem d_Mo_build_11 : decode b_Mo_build 11 = .ok (.iconst 0, 1) := by decide +kernel
theorem d_Mo_build_12 : decode b_Mo_build 12 = .ok (.putfield 232, 3) := by decide +kernel
theorem d_Mo_build_15 : decode b_Mo_build 15 = .ok (.aload_n 0, 1) := by decide +kernel
theorem d_Mo_build_16 : decode b_Mo_build 16 = .ok (.iconst 0, 1) := by decide +kernel
theorem d_Mo_build_17 : decode b_Mo_build 17 = .ok (.aload_n 0, 1) := by decide +kernel
theorem d_Mo_build_18 : decode b_Mo_build 18 = .ok (.getfield 139, 3) := by decide +kernel
theorem d_Mo_build_21 : decode b_Mo_build 21 = .ok (.iconst (-1), 1) := by decide +kernel
theorem d_Mo_build_22 : decode b_Mo_build 22 = .ok (.invokevirtual 251, 3) := by decide +kernel
theorem d_Mo_build_25 : decode b_Mo_build 25 = .ok (.aload_n 0, 1) := by decide +kernel
theorem d_Mo_build_26 : decode b_Mo_build 26 = .ok (.getfield 232, 3) := by decide +kernel
theorem d_Mo_build_29 : decode b_Mo_build 29 = .ok (.ifCond .le 136, 3) := by decide +kernel
theorem d_Mo_build_32 : decode b_Mo_build 32 = .ok (.aload_n 0, 1) := by decide +kernel
theorem d_Mo_build_33 : decode b_Mo_build 33 = .ok (.dup, 1) := by decide +kernel
theorem d_Mo_build_34 : decode b_Mo_build 34 = .ok (.getfield 232, 3) := by decide +kernel
theorem d_Mo_build_37 : decode b_Mo_build 37 = .ok (.iconst 1, 1) := by decide +kernel
theorem d_Mo_build_38 : decode b_Mo_build 38 = .ok (.isub, 1) := by decide +kernel
theorem d_Mo_build_39 : decode b_Mo_build 39 = .ok (.putfield 232, 3) := by decide +kernel
theorem d_Mo_build_42 : decode b_Mo_build 42 = .ok (.aload_n 0, 1) := by decide +kernel
theorem d_Mo_build_43 : decode b_Mo_build 43 = .ok (.getfield 258, 3) := by decide +kernel
theorem d_Mo_build_46 : decode b_Mo_build 46 = .ok (.bipush 60, 2) := by decide +kernel
theorem d_Mo_build_48 : decode b_Mo_build 48 = .ok (.if_icmp .ne 16, 3) := by decide +kernel
theorem d_Mo_build_51 : decode b_Mo_build 51 = .ok (.aload_n 0, 1) := by decide +kernel
theorem d_Mo_build_52 : decode b_Mo_build 52 = .ok (.dup, 1) := by decide +kernel
theorem d_Mo_build_53 : decode b_Mo_build 53 = .ok (.getfield 261, 3) := by decide +kernel
theorem d_Mo_build_56 : decode b_Mo_build 56 = .ok (.iconst 1, 1) := by decide +kernel
theorem d_Mo_build_57 : decode b_Mo_build 57 = .ok (.iadd, 1) := by decide +kernel
theorem d_Mo_build_58 : decode b_Mo_build 58 = .ok (.putfield 261, 3) := by decide +kernel
theorem d_Mo_build_61 : decode b_Mo_build 61 = .ok (.goto (-36), 3) := by decide +kernel
theorem d_Mo_build_64 : decode b_Mo_build 64 = .ok (.aload_n 0, 1) := by decide +kernel
theorem d_Mo_build_65 : decode b_Mo_build 65 = .ok (.getfield 258, 3) := by decide +kernel
theorem d_Mo_build_68 : decode b_Mo_build 68 = .ok (.istore_n 1, 1) := by decide +kernel
theorem d_Mo_build_69 : decode b_Mo_build 69 = .ok (.aload_n 0, 1) := by decide +kernel
theorem d_Mo_build_70 : decode b_Mo_build 70 = .ok (.dup, 1) := by decide +kernel
theorem d_Mo_build_71 : decode b_Mo_build 71 = .ok (.getfield 258, 3) := by decide +kernel
theorem d_Mo_build_74 : decode b_Mo_build 74 = .ok (.iconst 1, 1) := by decide +kernel
theorem d_Mo_build_75 : decode b_Mo_build 75 = .ok (.iadd, 1) := by decide +kernel
theorem d_Mo_build_76 : decode b_Mo_build 76 = .ok (.putfield 258, 3) := by decide +kernel
theorem d_Mo_build_79 : decode b_Mo_build 79 = .ok (.aload_n 0, 1) := by decide +kernel
theorem d_Mo_build_80 : decode b_Mo_build 80 = .ok (.getfield 77, 3) := by decide +kernel
theorem d_Mo_build_83 : decode b_Mo_build 83 = .ok (.iload_n 1, 1) := by decide +kernel
theorem d_Mo_build_84 : decode b_Mo_build 84 = .ok (.aload_n 0, 1) := by decide +kernel
theorem d_Mo_build_85 : decode b_Mo_build 85 = .ok (.getfield 102, 3) := by decide +kernel
theorem d_Mo_build_88 : decode b_Mo_build 88 = .ok (.aload_n 0, 1) := by decide +kernel
theorem d_Mo_build_89 : decode b_Mo_build 89 = .ok (.getfield 232, 3) := by decide +kernel
theorem d_Mo_build_92 : decode b_Mo_build 92 = .ok (.iaload, 1) := by decide +kernel
theorem d_Mo_build_93 : decode b_Mo_build 93 = .ok (.iastore, 1) := by decide +kernel
theorem d_Mo_build_94 : decode b_Mo_build 94 = .ok (.aload_n 0, 1) := by decide +kernel
theorem d_Mo_build_95 : decode b_Mo_build 95 = .ok (.getfield 80, 3) := by decide +kernel
theorem d_Mo_build_98 : decode b_Mo_build 98 = .ok (.iload_n 1, 1) := by decide +kernel
theorem d_Mo_build_99 : decode b_Mo_build 99 = .ok (.aload_n 0, 1) := by decide +kernel
theorem d_Mo_build_100 : decode b_Mo_build 100 = .ok (.getfield 105, 3) := by decide +kernel
theorem d_Mo_build_103 : decode b_Mo_build 103 = .ok (.aload_n 0, 1) := by decide +kernel
theorem d_Mo_build_104 : decode b_Mo_build 104 = .ok (.getfield 232, 3) := by decide +kernel
theorem d_Mo_build_107 : decode b_Mo_build 107 = .ok (.iaload, 1) := by decide +kernel
theorem d_Mo_build_108 : decode b_Mo_build 108 = .ok (.iastore, 1) := by decide +kernel
theorem d_Mo_build_109 : decode b_Mo_build 109 = .ok (.aload_n 0, 1) := by decide +kernel
theorem d_Mo_build_110 : decode b_Mo_build 110 = .ok (.getfield 89, 3) := by decide +kernel
theorem d_Mo_build_113 : decode b_Mo_build 113 = .ok (.iload_n 1, 1) := by decide +kernel
theorem d_Mo_build_114 : decode b_Mo_build 114 = .ok (.aload_n 0, 1) := by decide +kernel
theorem d_Mo_build_115 : decode b_Mo_build 115 = .ok (.getfield 108, 3) := by decide +kernel
theorem d_Mo_build_118 : decode b_Mo_build 118 = .ok (.aload_n 0, 1) := by decide +kernel
theorem d_Mo_build_119 : decode b_Mo_build 119 = .ok (.getfield 232, 3) := by decide +kernel
theorem d_Mo_build_122 : decode b_Mo_build 122 = .ok (.iaload, 1) := by decide +kernel
theorem d_Mo_build_123 : decode b_Mo_build 123 = .ok (.iastore, 1) := by decide +kernel
theorem d_Mo_build_124 : decode b_Mo_build 124 = .ok (.aload_n 0, 1) := by decide +kernel
theorem d_Mo_build_125 : decode b_Mo_build 125 = .ok (.getfield 92, 3) := by decide +kernel
theorem d_Mo_build_128 : decode b_Mo_build 128 = .ok (.iload_n 1, 1) := by decide +kernel
theorem d_Mo_build_129 : decode b_Mo_build 129 = .ok (.aload_n 0, 1) := by decide +kernel
theorem d_Mo_build_130 : decode b_Mo_build 130 = .ok (.getfield 89, 3) := by decide +kernel
theorem d_Mo_build_133 : decode b_Mo_build 133 = .ok (.iload_n 1, 1) := by decide +kernel
theorem d_Mo_build_134 : decode b_Mo_build 134 = .ok (.iaload, 1) := by decide +kernel
theorem d_Mo_build_135 : decode b_Mo_build 135 = .ok (.iconst (-1), 1) := by decide +kernel
theorem d_Mo_build_136 : decode b_Mo_build 136 = .ok (.if_icmp .ne 7, 3) := by decide +kernel
theorem d_Mo_build_139 : decode b_Mo_build 139 = .ok (.iconst 0, 1) := by decide +kernel
theorem d_Mo_build_140 : decode b_Mo_build 140 = .ok (.goto 16, 3) := by decide +kernel
theorem d_Mo_build_143 : decode b_Mo_build 143 = .ok (.aload_n 0, 1) := by decide +kernel
theorem d_Mo_build_144 : decode b_Mo_build 144 = .ok (.getfield 92, 3) := by decide +kernel
theorem d_Mo_build_147 : decode b_Mo_build 147 = .ok (.aload_n 0, 1) := by decide +kernel
theorem d_Mo_build_148 : decode b_Mo_build 148 = .ok (.getfield 89, 3) := by decide +kernel
theorem d_Mo_build_151 : decode b_Mo_build 151 = .ok (.iload_n 1, 1) := by decide +kernel
theorem d_Mo_build_152 : decode b_Mo_build 152 = .ok (.iaload, 1) := by decide +kernel
theorem d_Mo_build_153 : decode b_Mo_build 153 = .ok (.iaload, 1) := by decide +kernel
theorem d_Mo_build_154 : decode b_Mo_build 154 = .ok (.iconst 1, 1) := by decide +kernel
theorem d_Mo_build_155 : decode b_Mo_build 155 = .ok (.iadd, 1) := by decide +kernel
theorem d_Mo_build_156 : decode b_Mo_build 156 = .ok (.iastore, 1) := by decide +kernel
theorem d_Mo_build_157 : decode b_Mo_build 157 = .ok (.aload_n 0, 1) := by decide +kernel
theorem d_Mo_build_158 : decode b_Mo_build 158 = .ok (.iload_n 1, 1) := by decide +kernel
theorem d_Mo_build_159 : decode b_Mo_build 159 = .ok (.invokevirtual 264, 3) := by decide +kernel
theorem d_Mo_build_162 : decode b_Mo_build 162 = .ok (.goto (-137), 3) := by decide +kernel
theorem d_Mo_build_165 : decode b_Mo_build 165 = .ok (.return_, 1) := by decide +kernel
theorem d_Mo_alternative_0 : decode b_Mo_alternative 0 = .ok (.lconst 0, 1) := by decide +kernel
theorem d_Mo_alternative_1 : decode b_Mo_alternative 1 = .ok (.lstore_n 2, 1) := by decide +kernel
theorem d_Mo_alternative_2 : decode b_Mo_alternative 2 = .ok (.lconst 0, 1) := by decide +kernel
theorem d_Mo_alternative_3 : decode b_Mo_alternative 3 = .ok (.lstore 4, 2) := by decide +kernel
theorem d_Mo_alternative_5 : decode b_Mo_alternative 5 = .ok (.iload_n 1, 1) := by decide +kernel
theorem d_Mo_alternative_6 : decode b_Mo_alternative 6 = .ok (.iconst 1, 1) := by decide +kernel
theorem d_Mo_alternative_7 : decode b_Mo_alternative 7 = .ok (.iadd, 1) := by decide +kernel
theorem d_Mo_alternative_8 : decode b_Mo_alternative 8 = .ok (.istore 6, 2) := by decide +kernel
theorem d_Mo_alternative_10 : decode b_Mo_alternative 10 = .ok (.iload 6, 2) := by decide +kernel
theorem d_Mo_alternative_12 : decode b_Mo_alternative 12 = .ok (.aload_n 0, 1) := by decide +kernel
theorem d_Mo_alternative_13 : decode b_Mo_alternative 13 = .ok (.getfield 258, 3) := by decide +kernel
theorem d_Mo_alternative_16 : decode b_Mo_alternative 16 = .ok (.if_icmp .ge 69, 3) := by decide +kernel
theorem d_Mo_alternative_19 : decode b_Mo_alternative 19 = .ok (.aload_n 0, 1) := by decide +kernel
theorem d_Mo_alternative_20 : decode b_Mo_alternative 20 = .ok (.getfield 89, 3) := by decide +kernel
theorem d_Mo_alternative_23 : decode b_Mo_alternative 23 = .ok (.iload 6, 2) := by decide +kernel
theorem d_Mo_alternative_25 : decode b_Mo_alternative 25 = .ok (.iaload, 1) := by decide +kernel
theorem d_Mo_alternative_26 : decode b_Mo_alternative 26 = .ok (.iload_n 1, 1) := by decide +kernel
theorem d_Mo_alternative_27 : decode b_Mo_alternative 27 = .ok (.if_icmp .ne 52, 3) := by decide +kernel
theorem d_Mo_alternative_30 : decode b_Mo_alternative 30 = .ok (.aload_n 0, 1) := by decide +kernel
theorem d_Mo_alternative_31 : decode b_Mo_alternative 31 = .ok (.getfield 98, 3) := by decide +kernel
theorem d_Mo_alternative_34 : decode b_Mo_alternative 34 = .ok (.iload 6, 2) := by decide +kernel
theorem d_Mo_alternative_36 : decode b_Mo_alternative 36 = .ok (.laload, 1) := by decide +kernel
theorem d_Mo_alternative_37 : decode b_Mo_alternative 37 = .ok (.lconst 0, 1) := by decide +kernel
theorem d_Mo_alternative_38 : decode b_Mo_alternative 38 = .ok (.lcmp, 1) := by decide +kernel
theorem d_Mo_alternative_39 : decode b_Mo_alternative 39 = .ok (.ifCond .ne 6, 3) := by decide +kernel
theorem d_Mo_alternative_42 : decode b_Mo_alternative 42 = .ok (.goto 37, 3) := by decide +kernel
theorem d_Mo_alternative_45 : decode b_Mo_alternative 45 = .ok (.aload_n 0, 1) := by decide +kernel
theorem d_Mo_alternative_46 : decode b_Mo_alternative 46 = .ok (.getfield 98, 3) := by decide +kernel
theorem d_Mo_alternative_49 : decode b_Mo_alternative 49 = .ok (.iload 6, 2) := by decide +kernel
theorem d_Mo_alternative_51 : decode b_Mo_alternative 51 = .ok (.laload, 1) := by decide +kernel
theorem d_Mo_alternative_52 : decode b_Mo_alternative 52 = .ok (.lstore_n 2, 1) := by decide +kernel
theorem d_Mo_alternative_53 : decode b_Mo_alternative 53 = .ok (.aload_n 0, 1) := by decide +kernel
theorem d_Mo_alternative_54 : decode b_Mo_alternative 54 = .ok (.getfield 98, 3) := by decide +kernel
theorem d_Mo_alternative_57 : decode b_Mo_alternative 57 = .ok (.iload 6, 2) := by decide +kernel
theorem d_Mo_alternative_59 : decode b_Mo_alternative 59 = .ok (.laload, 1) := by decide +kernel
theorem d_Mo_alternative_60 : decode b_Mo_alternative 60 = .ok (.aload_n 0, 1) := by decide +kernel
theorem d_Mo_alternative_61 : decode b_Mo_alternative 61 = .ok (.getfield 267, 3) := by decide +kernel
theorem d_Mo_alternative_64 : decode b_Mo_alternative 64 = .ok (.land, 1) := by decide +kernel
theorem d_Mo_alternative_65 : decode b_Mo_alternative 65 = .ok (.lconst 0, 1) := by decide +kernel
theorem d_Mo_alternative_66 : decode b_Mo_alternative 66 = .ok (.lcmp, 1) := by decide +kernel
theorem d_Mo_alternative_67 : decode b_Mo_alternative 67 = .ok (.ifCond .ne 12, 3) := by decide +kernel
theorem d_Mo_alternative_70 : decode b_Mo_alternative 70 = .ok (.aload_n 0, 1) := by decide +kernel
theorem d_Mo_alternative_71 : decode b_Mo_alternative 71 = .ok (.getfield 98, 3) := by decide +kernel
theorem d_Mo_alternative_74 : decode b_Mo_alternative 74 = .ok (.iload 6, 2) := by decide +kernel
theorem d_Mo_alternative_76 : decode b_Mo_alternative 76 = .ok (.laload, 1) := by decide +kernel
theorem d_Mo_alternative_77 : decode b_Mo_alternative 77 = .ok (.lstore 4, 2) := by decide +kernel
theorem d_Mo_alternative_79 : decode b_Mo_alternative 79 = .ok (.iinc 6 1, 3) := by decide +kernel
theorem d_Mo_alternative_82 : decode b_Mo_alternative 82 = .ok (.goto (-72), 3) := by decide +kernel
theorem d_Mo_alternative_85 : decode b_Mo_alternative 85 = .ok (.lload 4, 2) := by decide +kernel
theorem d_Mo_alternative_87 : decode b_Mo_alternative 87 = .ok (.lconst 0, 1) := by decide +kernel
theorem d_Mo_alternative_88 : decode b_Mo_alternative 88 = .ok (.lcmp, 1) := by decide +kernel
theorem d_Mo_alternative_89 : decode b_Mo_alternative 89 = .ok (.ifCond .eq 8, 3) := by decide +kernel
theorem d_Mo_alternative_92 : decode b_Mo_alternative 92 = .ok (.lload 4, 2) := by decide +kernel
theorem d_Mo_alternative_94 : decode b_Mo_alternative 94 = .ok (.goto 4, 3) := by decide +kernel
theorem d_Mo_alternative_97 : decode b_Mo_alternative 97 = .ok (.lload_n 2, 1) := by decide +kernel
theorem d_Mo_alternative_98 : decode b_Mo_alternative 98 = .ok (.lreturn, 1) := by decide +kernel
theorem d_Mo_findTexts_0 : decode b_Mo_findTexts 0 = .ok (.aload_n 0, 1) := by decide +kernel
theorem d_Mo_findTexts_1 : decode b_Mo_findTexts 1 = .ok (.lconst 0, 1) := by decide +kernel
theorem d_Mo_findTexts_2 : decode b_Mo_findTexts 2 = .ok (.putfield 267, 3) := by decide +kernel
theorem d_Mo_findTexts_5 : decode b_Mo_findTexts 5 = .ok (.aload_n 0, 1) := by decide +kernel
theorem d_Mo_findTexts_6 : decode b_Mo_findTexts 6 = .ok (.getfield 258, 3) := by decide +kernel
theorem d_Mo_findTexts_9 : decode b_Mo_findTexts 9 = .ok (.iconst 1, 1) := by decide +kernel
theorem d_Mo_findTexts_10 : decode b_Mo_findTexts 10 = .ok (.isub, 1) := by decide +kernel
theorem d_Mo_findTexts_11 : decode b_Mo_findTexts 11 = .ok (.istore_n 1, 1) := by decide +kernel
theorem d_Mo_findTexts_12 : decode b_Mo_findTexts 12 = .ok (.iload_n 1, 1) := by decide +kernel
theorem d_Mo_findTexts_13 : decode b_Mo_findTexts 13 = .ok (.ifCond .lt 164, 3) := by decide +kernel
theorem d_Mo_findTexts_16 : decode b_Mo_findTexts 16 = .ok (.aload_n 0, 1) := by decide +kernel
theorem d_Mo_findTexts_17 : decode b_Mo_findTexts 17 = .ok (.getfield 98, 3) := by decide +kernel
theorem d_Mo_findTexts_20 : decode b_Mo_findTexts 20 = .ok (.iload_n 1, 1) := by decide +kernel
theorem d_Mo_findTexts_21 : decode b_Mo_findTexts 21 = .ok (.lconst 0, 1) := by decide +kernel
theorem d_Mo_findTexts_22 : decode b_Mo_findTexts 22 = .ok (.lastore, 1) := by decide +kernel
theorem d_Mo_findTexts_23 : decode b_Mo_findTexts 23 = .ok (.aload_n 0, 1) := by decide +kernel
theorem d_Mo_findTexts_24 : decode b_Mo_findTexts 24 = .ok (.iload_n 1, 1) := by decide +kernel
theorem d_Mo_findTexts_25 : decode b_Mo_findTexts 25 = .ok (.invokevirtual 235, 3) := by decide +kernel
theorem d_Mo_findTexts_28 : decode b_Mo_findTexts 28 = .ok (.aload_n 0, 1) := by decide +kernel
theorem d_Mo_findTexts_29 : decode b_Mo_findTexts 29 = .ok (.aload_n 0, 1) := by decide +kernel
theorem d_Mo_findTexts_30 : decode b_Mo_findTexts 30 = .ok (.getfield 31, 3) := by decide +kernel
theorem d_Mo_findTexts_33 : decode b_Mo_findTexts 33 = .ok (.invokevirtual 208, 3) := by decide +kernel
theorem d_Mo_findTexts_36 : decode b_Mo_findTexts 36 = .ok (.ifCond .eq 15, 3) := by decide +kernel
theorem d_Mo_findTexts_39 : decode b_Mo_findTexts 39 = .ok (.aload_n 0, 1) := by decide +kernel
theorem d_Mo_findTexts_40 : decode b_Mo_findTexts 40 = .ok (.dup, 1) := by decide +kernel
theorem d_Mo_findTexts_41 : decode b_Mo_findTexts 41 = .ok (.getfield 267, 3) := by decide +kernel
theorem d_Mo_findTexts_44 : decode b_Mo_findTexts 44 = .ok (.lconst 1, 1) := by decide +kernel
theorem d_Mo_findTexts_45 : decode b_Mo_findTexts 45 = .ok (.iload_n 1, 1) := by decide +kernel
theorem d_Mo_findTexts_46 : decode b_Mo_findTexts 46 = .ok (.lshl, 1) := by decide +kernel
theorem d_Mo_findTexts_47 : decode b_Mo_findTexts 47 = .ok (.lor, 1) := by decide +kernel
theorem d_Mo_findTexts_48 : decode b_Mo_findTexts 48 = .ok (.putfield 267, 3) := by decide +kernel
theorem d_Mo_findTexts_51 : decode b_Mo_findTexts 51 = .ok (.aload_n 0, 1) := by decide +kernel
theorem d_Mo_findTexts_52 : decode b_Mo_findTexts 52 = .ok (.aload_n 0, 1) := by decide +kernel
theorem d_Mo_findTexts_53 : decode b_Mo_findTexts 53 = .ok (.getfield 34, 3) := by decide +kernel
theorem d_Mo_findTexts_56 : decode b_Mo_findTexts 56 = .ok (.invokevirtual 239, 3) := by decide +kernel
theorem d_Mo_findTexts_59 : decode b_Mo_findTexts 59 = .ok (.istore_n 2, 1) := by decide +kernel
theorem d_Mo_findTexts_60 : decode b_Mo_findTexts 60 = .ok (.aload_n 0, 1) := by decide +kernel
theorem d_Mo_findTexts_61 : decode b_Mo_findTexts 61 = .ok (.aload_n 0, 1) := by decide +kernel
theorem d_Mo_findTexts_62 : decode b_Mo_findTexts 62 = .ok (.getfield 43, 3) := by decide +kernel
theorem d_Mo_findTexts_65 : decode b_Mo_findTexts 65 = .ok (.invokevirtual 208, 3) := by decide +kernel
theorem d_Mo_findTexts_68 : decode b_Mo_findTexts 68 = .ok (.istore_n 3, 1) := by decide +kernel
theorem d_Mo_findTexts_69 : decode b_Mo_findTexts 69 = .ok (.aload_n 0, 1) := by decide +kernel
theorem d_Mo_findTexts_70 : decode b_Mo_findTexts 70 = .ok (.getfield 95, 3) := by decide +kernel
theorem d_Mo_findTexts_73 : decode b_Mo_findTexts 73 = .ok (.iload_n 1, 1) := by decide +kernel
theorem d_Mo_findTexts_74 : decode b_Mo_findTexts 74 = .ok (.iaload, 1) := by decide +kernel
theorem d_Mo_findTexts_75 : decode b_Mo_findTexts 75 = .ok (.ifCond .ne 24, 3) := by decide +kernel
theorem d_Mo_findTexts_78 : decode b_Mo_findTexts 78 = .ok (.iload_n 2, 1) := by decide +kernel
theorem d_Mo_findTexts_79 : decode b_Mo_findTexts 79 = .ok (.ifCond .eq 20, 3) := by decide +kernel
theorem d_Mo_findTexts_82 : decode b_Mo_findTexts 82 = .ok (.aload_n 0, 1) := by decide +kernel
theorem d_Mo_findTexts_83 : decode b_Mo_findTexts 83 = .ok (.iload_n 1, 1) := by decide +kernel
theorem d_Mo_findTexts_84 : decode b_Mo_findTexts 84 = .ok (.invokevirtual 271, 3) := by decide +kernel
theorem d_Mo_findTexts_87 : decode b_Mo_findTexts 87 = .ok (.ifCond .ne 12, 3) := by decide +kernel
theorem d_Mo_findTexts_90 : decode b_Mo_findTexts 90 = .ok (.aload_n 0, 1) := by decide +kernel
theorem d_Mo_findTexts_91 : decode b_Mo_findTexts 91 = .ok (.getfield 98, 3) := by decide +kernel
theorem d_Mo_findTexts_94 : decode b_Mo_findTexts 94 = .ok (.iload_n 1, 1) := by decide +kernel
theorem d_Mo_findTexts_95 : decode b_Mo_findTexts 95 = .ok (.lconst 1, 1) := by decide +kernel
theorem d_Mo_findTexts_96 : decode b_Mo_findTexts 96 = .ok (.iload_n 1, 1) := by decide +kernel
theorem d_Mo_findTexts_97 : decode b_Mo_findTexts 97 = .ok (.lshl, 1) := by decide +kernel
theorem d_Mo_findTexts_98 : decode b_Mo_findTexts 98 = .ok (.lastore, 1) := by decide +kernel
theorem d_Mo_findTexts_99 : decode b_Mo_findTexts 99 = .ok (.iload_n 1, 1) := by decide +kernel
theorem d_Mo_findTexts_100 : decode b_Mo_findTexts 100 = .ok (.iconst 1, 1) := by decide +kernel
theorem d_Mo_findTexts_101 : decode b_Mo_findTexts 101 = .ok (.iadd, 1) := by decide +kernel
theorem d_Mo_findTexts_102 : decode b_Mo_findTexts 102 = .ok (.istore 4, 2) := by decide +kernel
theorem d_Mo_findTexts_104 : decode b_Mo_findTexts 104 = .ok (.iload 4, 2) := by decide +kernel
theorem d_Mo_findTexts_106 : decode b_Mo_findTexts 106 = .ok (.aload_n 0, 1) := by decide +kernel
theorem d_Mo_findTexts_107 : decode b_Mo_findTexts 107 = .ok (.getfield 258, 3) := by decide +kernel
theorem d_Mo_findTexts_110 : decode b_Mo_findTexts 110 = .ok (.if_icmp .ge 36, 3) := by decide +kernel
theorem d_Mo_findTexts_113 : decode b_Mo_findTexts 113 = .ok (.aload_n 0, 1) := by decide +kernel
theorem d_Mo_findTexts_114 : decode b_Mo_findTexts 114 = .ok (.getfield 89, 3) := by decide +kernel
theorem d_Mo_findTexts_117 : decode b_Mo_findTexts 117 = .ok (.iload 4, 2) := by decide +kernel
theorem d_Mo_findTexts_119 : decode b_Mo_findTexts 119 = .ok (.iaload, 1) := by decide +kernel
theorem d_Mo_findTexts_120 : decode b_Mo_findTexts 120 = .ok (.iload_n 1, 1) := by decide +kernel
theorem d_Mo_findTexts_121 : decode b_Mo_findTexts 121 = .ok (.if_icmp .ne 19, 3) := by decide +kernel
theorem d_Mo_findTexts_124 : decode b_Mo_findTexts 124 = .ok (.aload_n 0, 1) := by decide +kernel
theorem d_Mo_findTexts_125 : decode b_Mo_findTexts 125 = .ok (.getfield 98, 3) := by decide +kernel
theorem d_Mo_findTexts_128 : decode b_Mo_findTexts 128 = .ok (.iload_n 1, 1) := by decide +kernel
theorem d_Mo_findTexts_129 : decode b_Mo_findTexts 129 = .ok (.dup2, 1) := by decide +kernel
theorem d_Mo_findTexts_130 : decode b_Mo_findTexts 130 = .ok (.laload, 1) := by decide +kernel
theorem d_Mo_findTexts_131 : decode b_Mo_findTexts 131 = .ok (.aload_n 0, 1) := by decide +kernel
theorem d_Mo_findTexts_132 : decode b_Mo_findTexts 132 = .ok (.getfield 98, 3) := by decide +kernel
theorem d_Mo_findTexts_135 : decode b_Mo_findTexts 135 = .ok (.iload 4, 2) := by decide +kernel
theorem d_Mo_findTexts_137 : decode b_Mo_findTexts 137 = .ok (.laload, 1) := by decide +kernel
theorem d_Mo_findTexts_138 : decode b_Mo_findTexts 138 = .ok (.lor, 1) := by decide +kernel
theorem d_Mo_findTexts_139 : decode b_Mo_findTexts 139 = .ok (.lastore, 1) := by decide +kernel
theorem d_Mo_findTexts_140 : decode b_Mo_findTexts 140 = .ok (.iinc 4 1, 3) := by decide +kernel
theorem d_Mo_findTexts_143 : decode b_Mo_findTexts 143 = .ok (.goto (-39), 3) := by decide +kernel
theorem d_Mo_findTexts_146 : decode b_Mo_findTexts 146 = .ok (.aload_n 0, 1) := by decide +kernel
theorem d_Mo_findTexts_147 : decode b_Mo_findTexts 147 = .ok (.getfield 95, 3) := by decide +kernel
theorem d_Mo_findTexts_150 : decode b_Mo_findTexts 150 = .ok (.iload_n 1, 1) := by decide +kernel
theorem d_Mo_findTexts_151 : decode b_Mo_findTexts 151 = .ok (.iaload, 1) := by decide +kernel
theorem d_Mo_findTexts_152 : decode b_Mo_findTexts 152 = .ok (.iconst 1, 1) := by decide +kernel
theorem d_Mo_findTexts_153 : decode b_Mo_findTexts 153 = .ok (.if_icmp .ne 18, 3) := by decide +kernel
theorem d_Mo_findTexts_156 : decode b_Mo_findTexts 156 = .ok (.iload_n 3, 1) := by decide +kernel
theorem d_Mo_findTexts_157 : decode b_Mo_findTexts 157 = .ok (.ifCond .eq 14, 3) := by decide +kernel
theorem d_Mo_findTexts_160 : decode b_Mo_findTexts 160 = .ok (.aload_n 0, 1) := by decide +kernel
theorem d_Mo_findTexts_161 : decode b_Mo_findTexts 161 = .ok (.getfield 98, 3) := by decide +kernel
theorem d_Mo_findTexts_164 : decode b_Mo_findTexts 164 = .ok (.iload_n 1, 1) := by decide +kernel
theorem d_Mo_findTexts_165 : decode b_Mo_findTexts 165 = .ok (.aload_n 0, 1) := by decide +kernel
theorem d_Mo_findTexts_166 : decode b_Mo_findTexts 166 = .ok (.iload_n 1, 1) := by decide +kernel
theorem d_Mo_findTexts_167 : decode b_Mo_findTexts 167 = .ok (.invokevirtual 274, 3) := by decide +kernel
theorem d_Mo_findTexts_170 : decode b_Mo_findTexts 170 = .ok (.lastore, 1) := by decide +kernel
theorem d_Mo_findTexts_171 : decode b_Mo_findTexts 171 = .ok (.iinc 1 (-1), 3) := by decide +kernel
theorem d_Mo_findTexts_174 : decode b_Mo_findTexts 174 = .ok (.goto (-162), 3) := by decide +kernel
theorem d_Mo_findTexts_177 : decode b_Mo_findTexts 177 = .ok (.aload_n 0, 1) := by decide +kernel
theorem d_Mo_findTexts_178 : decode b_Mo_findTexts 178 = .ok (.aload_n 0, 1) := by decide +kernel
theorem d_Mo_findTexts_179 : decode b_Mo_findTexts 179 = .ok (.getfield 258, 3) := by decide +kernel
theorem d_Mo_findTexts_182 : decode b_Mo_findTexts 182 = .ok (.ifCond .ne 7, 3) := by decide +kernel
theorem d_Mo_findTexts_185 : decode b_Mo_findTexts 185 = .ok (.lconst 0, 1) := by decide +kernel
theorem d_Mo_findTexts_186 : decode b_Mo_findTexts 186 = .ok (.goto 9, 3) := by decide +kernel
theorem d_Mo_findTexts_189 : decode b_Mo_findTexts 189 = .ok (.aload_n 0, 1) := by decide +kernel
theorem d_Mo_findTexts_190 : decode b_Mo_findTexts 190 = .ok (.getfield 98, 3) := by decide +kernel
theorem d_Mo_findTexts_193 : decode b_Mo_findTexts 193 = .ok (.iconst 0, 1) := by decide +kernel
theorem d_Mo_findTexts_194 : decode b_Mo_findTexts 194 = .ok (.laload, 1) := by decide +kernel
theorem d_Mo_findTexts_195 : decode b_Mo_findTexts 195 = .ok (.putfield 278, 3) := by decide +kernel
theorem d_Mo_findTexts_198 : decode b_Mo_findTexts 198 = .ok (.return_, 1) := by decide +kernel
theorem d_Mo_isHanging_0 : decode b_Mo_isHanging 0 = .ok (.aload_n 0, 1) := by decide +kernel
theorem d_Mo_isHanging_1 : decode b_Mo_isHanging 1 = .ok (.getfield 95, 3) := by decide +kernel
theorem d_Mo_isHanging_4 : decode b_Mo_isHanging 4 = .ok (.iload_n 1, 1) := by decide +kernel
theorem d_Mo_isHanging_5 : decode b_Mo_isHanging 5 = .ok (.iaload, 1) := by decide +kernel
theorem d_Mo_isHanging_6 : decode b_Mo_isHanging 6 = .ok (.ifCond .ne 16, 3) := by decide +kernel
theorem d_Mo_isHanging_9 : decode b_Mo_isHanging 9 = .ok (.aload_n 0, 1) := by decide +kernel
theorem d_Mo_isHanging_10 : decode b_Mo_isHanging 10 = .ok (.getfield 278, 3) := by decide +kernel
theorem d_Mo_isHanging_13 : decode b_Mo_isHanging 13 = .ok (.iload_n 1, 1) := by decide +kernel
theorem d_Mo_isHanging_14 : decode b_Mo_isHanging 14 = .ok (.lshr, 1) := by decide +kernel
theorem d_Mo_isHanging_15 : decode b_Mo_isHanging 15 = .ok (.lconst 1, 1) := by decide +kernel
theorem d_Mo_isHanging_16 : decode b_Mo_isHanging 16 = .ok (.land, 1) := by decide +kernel
theorem d_Mo_isHanging_17 : decode b_Mo_isHanging 17 = .ok (.lconst 1, 1) := by decide +kernel
theorem d_Mo_isHanging_18 : decode b_Mo_isHanging 18 = .ok (.lcmp, 1) := by decide +kernel
theorem d_Mo_isHanging_19 : decode b_Mo_isHanging 19 = .ok (.ifCond .ne 5, 3) := by decide +kernel
theorem d_Mo_isHanging_22 : decode b_Mo_isHanging 22 = .ok (.iconst 0, 1) := by decide +kernel
theorem d_Mo_isHanging_23 : decode b_Mo_isHanging 23 = .ok (.ireturn, 1) := by decide +kernel
theorem d_Mo_isHanging_24 : decode b_Mo_isHanging 24 = .ok (.aload_n 0, 1) := by decide +kernel
theorem d_Mo_isHanging_25 : decode b_Mo_isHanging 25 = .ok (.iload_n 1, 1) := by decide +kernel
theorem d_Mo_isHanging_26 : decode b_Mo_isHanging 26 = .ok (.invokevirtual 235, 3) := by decide +kernel
theorem d_Mo_isHanging_29 : decode b_Mo_isHanging 29 = .ok (.aload_n 0, 1) := by decide +kernel
theorem d_Mo_isHanging_30 : decode b_Mo_isHanging 30 = .ok (.aload_n 0, 1) := by decide +kernel
theorem d_Mo_isHanging_31 : decode b_Mo_isHanging 31 = .ok (.getfield 34, 3) := by decide +kernel
theorem d_Mo_isHanging_34 : decode b_Mo_isHanging 34 = .ok (.invokevirtual 239, 3) := by decide +kernel
theorem d_Mo_isHanging_37 : decode b_Mo_isHanging 37 = .ok (.ifCond .eq 11, 3) := by decide +kernel
theorem d_Mo_isHanging_40 : decode b_Mo_isHanging 40 = .ok (.aload_n 0, 1) := by decide +kernel
theorem d_Mo_isHanging_41 : decode b_Mo_isHanging 41 = .ok (.iload_n 1, 1) := by decide +kernel
theorem d_Mo_isHanging_42 : decode b_Mo_isHanging 42 = .ok (.invokevirtual 271, 3) := by decide +kernel
theorem d_Mo_isHanging_45 : decode b_Mo_isHanging 45 = .ok (.ifCond .eq 7, 3) := by decide +kernel
theorem d_Mo_isHanging_48 : decode b_Mo_isHanging 48 = .ok (.iconst 1, 1) := by decide +kernel
theorem d_Mo_isHanging_49 : decode b_Mo_isHanging 49 = .ok (.goto 4, 3) := by decide +kernel
theorem d_Mo_isHanging_52 : decode b_Mo_isHanging 52 = .ok (.iconst 0, 1) := by decide +kernel
theorem d_Mo_isHanging_53 : decode b_Mo_isHanging 53 = .ok (.ireturn, 1) := by decide +kernel
theorem d_Mo_feed_0 : decode b_Mo_feed 0 = .ok (.iconst 0, 1) := by decide +kernel
theorem d_Mo_feed_1 : decode b_Mo_feed 1 = .ok (.istore 6, 2) := by decide +kernel
theorem d_Mo_feed_3 : decode b_Mo_feed 3 = .ok (.iload 6, 2) := by decide +kernel
theorem d_Mo_feed_5 : decode b_Mo_feed 5 = .ok (.bipush 20, 2) := by decide +kernel
theorem d_Mo_feed_7 : decode b_Mo_feed 7 = .ok (.if_icmp .ge 78, 3) := by decide +kernel
theorem d_Mo_feed_10 : decode b_Mo_feed 10 = .ok (.iload 6, 2) := by decide +kernel
theorem d_Mo_feed_12 : decode b_Mo_feed 12 = .ok (.iconst 4, 1) := by decide +kernel
theorem d_Mo_feed_13 : decode b_Mo_feed 13 = .ok (.if_icmp .ge 7, 3) := by decide +kernel
theorem d_Mo_feed_16 : decode b_Mo_feed 16 = .ok (.iload_n 1, 1) := by decide +kernel
theorem d_Mo_feed_17 : decode b_Mo_feed 17 = .ok (.goto 39, 3) := by decide +kernel
theorem d_Mo_feed_20 : decode b_Mo_feed 20 = .ok (.iload 6, 2) := by decide +kernel
theorem d_Mo_feed_22 : decode b_Mo_feed 22 = .ok (.bipush 8, 2) := by decide +kernel
theorem d_Mo_feed_24 : decode b_Mo_feed 24 = .ok (.if_icmp .ge 7, 3) := by decide +kernel
theorem d_Mo_feed_27 : decode b_Mo_feed 27 = .ok (.iload_n 2, 1) := by decide +kernel
theorem d_Mo_feed_28 : decode b_Mo_feed 28 = .ok (.goto 28, 3) := by decide +kernel
theorem d_Mo_feed_31 : decode b_Mo_feed 31 = .ok (.iload 6, 2) := by decide +kernel
theorem d_Mo_feed_33 : decode b_Mo_feed 33 = .ok (.bipush 12, 2) := by decide +kernel
theorem d_Mo_feed_35 : decode b_Mo_feed 35 = .ok (.if_icmp .ge 7, 3) := by decide +kernel
theorem d_Mo_feed_38 : decode b_Mo_feed 38 = .ok (.iload_n 3, 1) := by decide +kernel
theorem d_Mo_feed_39 : decode b_Mo_feed 39 = .ok (.goto 17, 3) := by decide +kernel
theorem d_Mo_feed_42 : decode b_Mo_feed 42 = .ok (.iload 6, 2) := by decide +kernel
theorem d_Mo_feed_44 : decode b_Mo_feed 44 = .ok (.bipush 16, 2) := by decide +kernel
theorem d_Mo_feed_46 : decode b_Mo_feed 46 = .ok (.if_icmp .ge 8, 3) := by decide +kernel
theorem d_Mo_feed_49 : decode b_Mo_feed 49 = .ok (.iload 4, 2) := by decide +kernel
theorem d_Mo_feed_51 : decode b_Mo_feed 51 = .ok (.goto 5, 3) := by decide +kernel
theorem d_Mo_feed_54 : decode b_Mo_feed 54 = .ok (.iload 5, 2) := by decide +kernel
theorem d_Mo_feed_56 : decode b_Mo_feed 56 = .ok (.istore 7, 2) := by decide +kernel
theorem d_Mo_feed_58 : decode b_Mo_feed 58 = .ok (.aload_n 0, 1) := by decide +kernel
theorem d_Mo_feed_59 : decode b_Mo_feed 59 = .ok (.getfield 61, 3) := by decide +kernel
theorem d_Mo_feed_62 : decode b_Mo_feed 62 = .ok (.iload 6, 2) := by decide +kernel
theorem d_Mo_feed_64 : decode b_Mo_feed 64 = .ok (.iload 7, 2) := by decide +kernel
theorem d_Mo_feed_66 : decode b_Mo_feed 66 = .ok (.bipush 24, 2) := by decide +kernel
theorem d_Mo_feed_68 : decode b_Mo_feed 68 = .ok (.bipush 8, 2) := by decide +kernel
theorem d_Mo_feed_70 : decode b_Mo_feed 70 = .ok (.iload 6, 2) := by decide +kernel
theorem d_Mo_feed_72 : decode b_Mo_feed 72 = .ok (.iconst 4, 1) := by decide +kernel
theorem d_Mo_feed_73 : decode b_Mo_feed 73 = .ok (.irem, 1) := by decide +kernel
theorem d_Mo_feed_74 : decode b_Mo_feed 74 = .ok (.imul, 1) := by decide +kernel
theorem d_Mo_feed_75 : decode b_Mo_feed 75 = .ok (.isub, 1) := by decide +kernel
theorem d_Mo_feed_76 : decode b_Mo_feed 76 = .ok (.ishr, 1) := by decide +kernel
theorem d_Mo_feed_77 : decode b_Mo_feed 77 = .ok (.i2b, 1) := by decide +kernel
theorem d_Mo_feed_78 : decode b_Mo_feed 78 = .ok (.bastore, 1) := by decide +kernel
theorem d_Mo_feed_79 : decode b_Mo_feed 79 = .ok (.iinc 6 1, 3) := by decide +kernel
theorem d_Mo_feed_82 : decode b_Mo_feed 82 = .ok (.goto (-79), 3) := by decide +kernel
theorem d_Mo_feed_85 : decode b_Mo_feed 85 = .ok (.return_, 1) := by decide +kernel
theorem d_Mo_end_0 : decode b_Mo_end 0 = .ok (.iload_n 1, 1) := by decide +kernel
theorem d_Mo_end_1 : decode b_Mo_end 1 = .ok (.ifCond .lt 21, 3) := by decide +kernel
theorem d_Mo_end_4 : decode b_Mo_end 4 = .ok (.iload_n 1, 1) := by decide +kernel
theorem d_Mo_end_5 : decode b_Mo_end 5 = .ok (.bipush 20, 2) := by decide +kernel
theorem d_Mo_end_7 : decode b_Mo_end 7 = .ok (.if_icmp .gt 15, 3) := by decide +kernel
theorem d_Mo_end_10 : decode b_Mo_end 10 = .ok (.aload_n 0, 1) := by decide +kernel
theorem d_Mo_end_11 : decode b_Mo_end 11 = .ok (.getfield 281, 3) := by decide +kernel
theorem d_Mo_end_14 : decode b_Mo_end 14 = .ok (.iload_n 1, 1) := by decide +kernel
theorem d_Mo_end_15 : decode b_Mo_end 15 = .ok (.iadd, 1) := by decide +kernel
theorem d_Mo_end_16 : decode b_Mo_end 16 = .ok (.sipush 1500, 3) := by decide +kernel
theorem d_Mo_end_19 : decode b_Mo_end 19 = .ok (.if_icmp .le 5, 3) := by decide +kernel
theorem d_Mo_end_22 : decode b_Mo_end 22 = .ok (.iconst (-1), 1) := by decide +kernel
theorem d_Mo_end_23 : decode b_Mo_end 23 = .ok (.ireturn, 1) := by decide +kernel
theorem d_Mo_end_24 : decode b_Mo_end 24 = .ok (.iconst 0, 1) := by decide +kernel
theorem d_Mo_end_25 : decode b_Mo_end 25 = .ok (.istore_n 2, 1) := by decide +kernel
theorem d_Mo_end_26 : decode b_Mo_end 26 = .ok (.iload_n 2, 1) := by decide +kernel
theorem d_Mo_end_27 : decode b_Mo_end 27 = .ok (.iload_n 1, 1) := by decide +kernel
theorem d_Mo_end_28 : decode b_Mo_end 28 = .ok (.if_icmp .ge 26, 3) := by decide +kernel
theorem d_Mo_end_31 : decode b_Mo_end 31 = .ok (.aload_n 0, 1) := by decide +kernel
theorem d_Mo_end_32 : decode b_Mo_end 32 = .ok (.getfield 65, 3) := by decide +kernel
theorem d_Mo_end_35 : decode b_Mo_end 35 = .ok (.aload_n 0, 1) := by decide +kernel
theorem d_Mo_end_36 : decode b_Mo_end 36 = .ok (.getfield 281, 3) := by decide +kernel
theorem d_Mo_end_39 : decode b_Mo_end 39 = .ok (.iload_n 2, 1) := by decide +kernel
theorem d_Mo_end_40 : decode b_Mo_end 40 = .ok (.iadd, 1) := by decide +kernel
theorem d_Mo_end_41 : decode b_Mo_end 41 = .ok (.aload_n 0, 1) := by decide +kernel
theorem d_Mo_end_42 : decode b_Mo_end 42 = .ok (.getfield 61, 3) := by decide +kernel
theorem d_Mo_end_45 : decode b_Mo_end 45 = .ok (.iload_n 2, 1) := by decide +kernel
theorem d_Mo_end_46 : decode b_Mo_end 46 = .ok (.baload, 1) := by decide +kernel
theorem d_Mo_end_47 : decode b_Mo_end 47 = .ok (.bastore, 1) := by decide +kernel
theorem d_Mo_end_48 : decode b_Mo_end 48 = .ok (.iinc 2 1, 3) := by decide +kernel
theorem d_Mo_end_51 : decode b_Mo_end 51 = .ok (.goto (-25), 3) := by decide +kernel
theorem d_Mo_end_54 : decode b_Mo_end 54 = .ok (.aload_n 0, 1) := by decide +kernel
theorem d_Mo_end_55 : decode b_Mo_end 55 = .ok (.dup, 1) := by decide +kernel
theorem d_Mo_end_56 : decode b_Mo_end 56 = .ok (.getfield 281, 3) := by decide +kernel
theorem d_Mo_end_59 : decode b_Mo_end 59 = .ok (.iload_n 1, 1) := by decide +kernel
theorem d_Mo_end_60 : decode b_Mo_end 60 = .ok (.iadd, 1) := by decide +kernel
theorem d_Mo_end_61 : decode b_Mo_end 61 = .ok (.putfield 281, 3) := by decide +kernel
theorem d_Mo_end_64 : decode b_Mo_end 64 = .ok (.iconst 0, 1) := by decide +kernel
theorem d_Mo_end_65 : decode b_Mo_end 65 = .ok (.istore_n 2, 1) := by decide +kernel
theorem d_Mo_end_66 : decode b_Mo_end 66 = .ok (.iload_n 2, 1) := by decide +kernel
theorem d_Mo_end_67 : decode b_Mo_end 67 = .ok (.bipush 20, 2) := by decide +kernel
theorem d_Mo_end_69 : decode b_Mo_end 69 = .ok (.if_icmp .ge 16, 3) := by decide +kernel
theorem d_Mo_end_72 : decode b_Mo_end 72 = .ok (.aload_n 0, 1) := by decide +kernel
theorem d_Mo_end_73 : decode b_Mo_end 73 = .ok (.getfield 61, 3) := by decide +kernel
theorem d_Mo_end_76 : decode b_Mo_end 76 = .ok (.iload_n 2, 1) := by decide +kernel
theorem d_Mo_end_77 : decode b_Mo_end 77 = .ok (.iconst 0, 1) := by decide +kernel
theorem d_Mo_end_78 : decode b_Mo_end 78 = .ok (.bastore, 1) := by decide +kernel
theorem d_Mo_end_79 : decode b_Mo_end 79 = .ok (.iinc 2 1, 3) := by decide +kernel
theorem d_Mo_end_82 : decode b_Mo_end 82 = .ok (.goto (-16), 3) := by decide +kernel
theorem d_Mo_end_85 : decode b_Mo_end 85 = .ok (.aload_n 0, 1) := by decide +kernel
theorem d_Mo_end_86 : decode b_Mo_end 86 = .ok (.getfield 281, 3) := by decide +kernel
theorem d_Mo_end_89 : decode b_Mo_end 89 = .ok (.ireturn, 1) := by decide +kernel
theorem d_Mo_read_0 : decode b_Mo_read 0 = .ok (.aload_n 0, 1) := by decide +kernel
theorem d_Mo_read_1 : decode b_Mo_read 1 = .ok (.aload_n 0, 1) := by decide +kernel
theorem d_Mo_read_2 : decode b_Mo_read 2 = .ok (.getfield 281, 3) := by decide +kernel
theorem d_Mo_read_5 : decode b_Mo_read 5 = .ok (.putfield 143, 3) := by decide +kernel
theorem d_Mo_read_8 : decode b_Mo_read 8 = .ok (.iconst 0, 1) := by decide +kernel
theorem d_Mo_read_9 : decode b_Mo_read 9 = .ok (.istore_n 1, 1) := by decide +kernel
theorem d_Mo_read_10 : decode b_Mo_read 10 = .ok (.iload_n 1, 1) := by decide +kernel
theorem d_Mo_read_11 : decode b_Mo_read 11 = .ok (.aload_n 0, 1) := by decide +kernel
theorem d_Mo_read_12 : decode b_Mo_read 12 = .ok (.getfield 143, 3) := by decide +kernel
theorem d_Mo_read_15 : decode b_Mo_read 15 = .ok (.if_icmp .ge 21, 3) := by decide +kernel
theorem d_Mo_read_18 : decode b_Mo_read 18 = .ok (.aload_n 0, 1) := by decide +kernel
theorem d_Mo_read_19 : decode b_Mo_read 19 = .ok (.getfield 68, 3) := by decide +kernel
theorem d_Mo_read_22 : decode b_Mo_read 22 = .ok (.iload_n 1, 1) := by decide +kernel
theorem d_Mo_read_23 : decode b_Mo_read 23 = .ok (.aload_n 0, 1) := by decide +kernel
theorem d_Mo_read_24 : decode b_Mo_read 24 = .ok (.getfield 65, 3) := by decide +kernel
theorem d_Mo_read_27 : decode b_Mo_read 27 = .ok (.iload_n 1, 1) := by decide +kernel
theorem d_Mo_read_28 : decode b_Mo_read 28 = .ok (.baload, 1) := by decide +kernel
theorem d_Mo_read_29 : decode b_Mo_read 29 = .ok (.bastore, 1) := by decide +kernel
theorem d_Mo_read_30 : decode b_Mo_read 30 = .ok (.iinc 1 1, 3) := by decide +kernel
theorem d_Mo_read_33 : decode b_Mo_read 33 = .ok (.goto (-23), 3) := by decide +kernel
theorem d_Mo_read_36 : decode b_Mo_read 36 = .ok (.aload_n 0, 1) := by decide +kernel
theorem d_Mo_read_37 : decode b_Mo_read 37 = .ok (.iconst 0, 1) := by decide +kernel
theorem d_Mo_read_38 : decode b_Mo_read 38 = .ok (.putfield 281, 3) := by decide +kernel
theorem d_Mo_read_41 : decode b_Mo_read 41 = .ok (.aload_n 0, 1) := by decide +kernel
theorem d_Mo_read_42 : decode b_Mo_read 42 = .ok (.iconst 1, 1) := by decide +kernel
theorem d_Mo_read_43 : decode b_Mo_read 43 = .ok (.putfield 284, 3) := by decide +kernel
theorem d_Mo_read_46 : decode b_Mo_read 46 = .ok (.aload_n 0, 1) := by decide +kernel
theorem d_Mo_read_47 : decode b_Mo_read 47 = .ok (.invokevirtual 288, 3) := by decide +kernel
theorem d_Mo_read_50 : decode b_Mo_read 50 = .ok (.aload_n 0, 1) := by decide +kernel
theorem d_Mo_read_51 : decode b_Mo_read 51 = .ok (.invokevirtual 291, 3) := by decide +kernel
theorem d_Mo_read_54 : decode b_Mo_read 54 = .ok (.aload_n 0, 1) := by decide +kernel
theorem d_Mo_read_55 : decode b_Mo_read 55 = .ok (.invokevirtual 294, 3) := by decide +kernel
theorem d_Mo_read_58 : decode b_Mo_read 58 = .ok (.aload_n 0, 1) := by decide +kernel
theorem d_Mo_read_59 : decode b_Mo_read 59 = .ok (.getfield 258, 3) := by decide +kernel
theorem d_Mo_read_62 : decode b_Mo_read 62 = .ok (.ireturn, 1) := by decide +kernel
theorem d_Mo_isThere_0 : decode b_Mo_isThere 0 = .ok (.aload_n 0, 1) := by decide +kernel
theorem d_Mo_isThere_1 : decode b_Mo_isThere 1 = .ok (.getfield 284, 3) := by decide +kernel
theorem d_Mo_isThere_4 : decode b_Mo_isThere 4 = .ok (.ifCond .eq 19, 3) := by decide +kernel
theorem d_Mo_isThere_7 : decode b_Mo_isThere 7 = .ok (.iload_n 1, 1) := by decide +kernel
theorem d_Mo_isThere_8 : decode b_Mo_isThere 8 = .ok (.ifCond .lt 15, 3) := by decide +kernel
theorem d_Mo_isThere_11 : decode b_Mo_isThere 11 = .ok (.iload_n 1, 1) := by decide +kernel
theorem d_Mo_isThere_12 : decode b_Mo_isThere 12 = .ok (.aload_n 0, 1) := by decide +kernel
theorem d_Mo_isThere_13 : decode b_Mo_isThere 13 = .ok (.getfield 258, 3) := by decide +kernel
theorem d_Mo_isThere_16 : decode b_Mo_isThere 16 = .ok (.if_icmp .ge 7, 3) := by decide +kernel
theorem d_Mo_isThere_19 : decode b_Mo_isThere 19 = .ok (.iconst 1, 1) := by decide +kernel
theorem d_Mo_isThere_20 : decode b_Mo_isThere 20 = .ok (.goto 4, 3) := by decide +kernel
theorem d_Mo_isThere_23 : decode b_Mo_isThere 23 = .ok (.iconst 0, 1) := by decide +kernel
theorem d_Mo_isThere_24 : decode b_Mo_isThere 24 = .ok (.ireturn, 1) := by decide +kernel
theorem d_Mo_place_0 : decode b_Mo_place 0 = .ok (.iload_n 1, 1) := by decide +kernel
theorem d_Mo_place_1 : decode b_Mo_place 1 = .ok (.aload_n 0, 1) := by decide +kernel
theorem d_Mo_place_2 : decode b_Mo_place 2 = .ok (.getfield 139, 3) := by decide +kernel
theorem d_Mo_place_5 : decode b_Mo_place 5 = .ok (.if_icmp .ge 12, 3) := by decide +kernel
theorem d_Mo_place_8 : decode b_Mo_place 8 = .ok (.aload_n 0, 1) := by decide +kernel
theorem d_Mo_place_9 : decode b_Mo_place 9 = .ok (.getfield 71, 3) := by decide +kernel
theorem d_Mo_place_12 : decode b_Mo_place 12 = .ok (.iload_n 1, 1) := by decide +kernel
theorem d_Mo_place_13 : decode b_Mo_place 13 = .ok (.iaload, 1) := by decide +kernel
theorem d_Mo_place_14 : decode b_Mo_place 14 = .ok (.goto 7, 3) := by decide +kernel
theorem d_Mo_place_17 : decode b_Mo_place 17 = .ok (.aload_n 0, 1) := by decide +kernel
theorem d_Mo_place_18 : decode b_Mo_place 18 = .ok (.getfield 143, 3) := by decide +kernel
theorem d_Mo_place_21 : decode b_Mo_place 21 = .ok (.ireturn, 1) := by decide +kernel
theorem d_Mo_children_0 : decode b_Mo_children 0 = .ok (.iconst 0, 1) := by decide +kernel
theorem d_Mo_children_1 : decode b_Mo_children 1 = .ok (.istore_n 2, 1) := by decide +kernel
theorem d_Mo_children_2 : decode b_Mo_children 2 = .ok (.iload_n 1, 1) := by decide +kernel
theorem d_Mo_children_3 : decode b_Mo_children 3 = .ok (.iconst 1, 1) := by decide +kernel
theorem d_Mo_children_4 : decode b_Mo_children 4 = .ok (.iadd, 1) := by decide +kernel
theorem d_Mo_children_5 : decode b_Mo_children 5 = .ok (.istore_n 3, 1) := by decide +kernel
theorem d_Mo_children_6 : decode b_Mo_children 6 = .ok (.iload_n 3, 1) := by decide +kernel
theorem d_Mo_children_7 : decode b_Mo_children 7 = .ok (.aload_n 0, 1) := by decide +kernel
theorem d_Mo_children_8 : decode b_Mo_children 8 = .ok (.getfield 258, 3) := by decide +kernel
theorem d_Mo_children_11 : decode b_Mo_children 11 = .ok (.if_icmp .ge 27, 3) := by decide +kernel
theorem d_Mo_children_14 : decode b_Mo_children 14 = .ok (.iload_n 2, 1) := by decide +kernel
theorem d_Mo_children_15 : decode b_Mo_children 15 = .ok (.aload_n 0, 1) := by decide +kernel
theorem d_Mo_children_16 : decode b_Mo_children 16 = .ok (.getfield 89, 3) := by decide +kernel
theorem d_Mo_children_19 : decode b_Mo_children 19 = .ok (.iload_n 3, 1) := by decide +kernel
theorem d_Mo_children_20 : decode b_Mo_children 20 = .ok (.iaload, 1) := by decide +kernel
theorem d_Mo_children_21 : decode b_Mo_children 21 = .ok (.iload_n 1, 1) := by decide +kernel
theorem d_Mo_children_22 : decode b_Mo_children 22 = .ok (.if_icmp .ne 7, 3) := by decide +kernel
theorem d_Mo_children_25 : decode b_Mo_children 25 = .ok (.iconst 1, 1) := by decide +kernel
theorem d_Mo_children_26 : decode b_Mo_children 26 = .ok (.goto 4, 3) := by decide +kernel
theorem d_Mo_children_29 : decode b_Mo_children 29 = .ok (.iconst 0, 1) := by decide +kernel
theorem d_Mo_children_30 : decode b_Mo_children 30 = .ok (.iadd, 1) := by decide +kernel
theorem d_Mo_children_31 : decode b_Mo_children 31 = .ok (.istore_n 2, 1) := by decide +kernel
theorem d_Mo_children_32 : decode b_Mo_children 32 = .ok (.iinc 3 1, 3) := by decide +kernel
theorem d_Mo_children_35 : decode b_Mo_children 35 = .ok (.goto (-29), 3) := by decide +kernel
theorem d_Mo_children_38 : decode b_Mo_children 38 = .ok (.iload_n 2, 1) := by decide +kernel
theorem d_Mo_children_39 : decode b_Mo_children 39 = .ok (.ireturn, 1) := by decide +kernel
theorem d_Mo_fields_0 : decode b_Mo_fields 0 = .ok (.iconst 0, 1) := by decide +kernel
theorem d_Mo_fields_1 : decode b_Mo_fields 1 = .ok (.istore_n 2, 1) := by decide +kernel
theorem d_Mo_fields_2 : decode b_Mo_fields 2 = .ok (.aload_n 0, 1) := by decide +kernel
theorem d_Mo_fields_3 : decode b_Mo_fields 3 = .ok (.getfield 77, 3) := by decide +kernel
theorem d_Mo_fields_6 : decode b_Mo_fields 6 = .ok (.iload_n 1, 1) := by decide +kernel
theorem d_Mo_fields_7 : decode b_Mo_fields 7 = .ok (.iaload, 1) := by decide +kernel
theorem d_Mo_fields_8 : decode b_Mo_fields 8 = .ok (.istore_n 3, 1) := by decide +kernel
theorem d_Mo_fields_9 : decode b_Mo_fields 9 = .ok (.iload_n 3, 1) := by decide +kernel
theorem d_Mo_fields_10 : decode b_Mo_fields 10 = .ok (.aload_n 0, 1) := by decide +kernel
theorem d_Mo_fields_11 : decode b_Mo_fields 11 = .ok (.getfield 83, 3) := by decide +kernel
theorem d_Mo_fields_14 : decode b_Mo_fields 14 = .ok (.iload_n 1, 1) := by decide +kernel
theorem d_Mo_fields_15 : decode b_Mo_fields 15 = .ok (.iaload, 1) := by decide +kernel
theorem d_Mo_fields_16 : decode b_Mo_fields 16 = .ok (.if_icmp .ge 89, 3) := by decide +kernel
theorem d_Mo_fields_19 : decode b_Mo_fields 19 = .ok (.aload_n 0, 1) := by decide +kernel
theorem d_Mo_fields_20 : decode b_Mo_fields 20 = .ok (.iload_n 3, 1) := by decide +kernel
theorem d_Mo_fields_21 : decode b_Mo_fields 21 = .ok (.invokevirtual 150, 3) := by decide +kernel
theorem d_Mo_fields_24 : decode b_Mo_fields 24 = .ok (.iconst (-1), 1) := by decide +kernel
theorem d_Mo_fields_25 : decode b_Mo_fields 25 = .ok (.if_icmp .ne 6, 3) := by decide +kernel
theorem d_Mo_fields_28 : decode b_Mo_fields 28 = .ok (.goto 71, 3) := by decide +kernel
theorem d_Mo_fields_31 : decode b_Mo_fields 31 = .ok (.iconst 0, 1) := by decide +kernel
theorem d_Mo_fields_32 : decode b_Mo_fields 32 = .ok (.istore 4, 2) := by decide +kernel
theorem d_Mo_fields_34 : decode b_Mo_fields 34 = .ok (.aload_n 0, 1) := by decide +kernel
theorem d_Mo_fields_35 : decode b_Mo_fields 35 = .ok (.getfield 77, 3) := by decide +kernel
theorem d_Mo_fields_38 : decode b_Mo_fields 38 = .ok (.iload_n 1, 1) := by decide +kernel
theorem d_Mo_fields_39 : decode b_Mo_fields 39 = .ok (.iaload, 1) := by decide +kernel
theorem d_Mo_fields_40 : decode b_Mo_fields 40 = .ok (.istore 5, 2) := by decide +kernel
theorem d_Mo_fields_42 : decode b_Mo_fields 42 = .ok (.iload 5, 2) := by decide +kernel
theorem d_Mo_fields_44 : decode b_Mo_fields 44 = .ok (.iload_n 3, 1) := by decide +kernel
theorem d_Mo_fields_45 : decode b_Mo_fields 45 = .ok (.if_icmp .ge 41, 3) := by decide +kernel
theorem d_Mo_fields_48 : decode b_Mo_fields 48 = .ok (.iload 4, 2) := by decide +kernel
theorem d_Mo_fields_50 : decode b_Mo_fields 50 = .ok (.ifCond .ne 23, 3) := by decide +kernel
theorem d_Mo_fields_53 : decode b_Mo_fields 53 = .ok (.aload_n 0, 1) := by decide +kernel
theorem d_Mo_fields_54 : decode b_Mo_fields 54 = .ok (.iload 5, 2) := by decide +kernel
theorem d_Mo_fields_56 : decode b_Mo_fields 56 = .ok (.invokevirtual 150, 3) := by decide +kernel
theorem d_Mo_fields_59 : decode b_Mo_fields 59 = .ok (.iconst (-1), 1) := by decide +kernel
theorem d_Mo_fields_60 : decode b_Mo_fields 60 = .ok (.if_icmp .eq 17, 3) := by decide +kernel
theorem d_Mo_fields_63 : decode b_Mo_fields 63 = .ok (.aload_n 0, 1) := by decide +kernel
theorem d_Mo_fields_64 : decode b_Mo_fields 64 = .ok (.iload 5, 2) := by decide +kernel
theorem d_Mo_fields_66 : decode b_Mo_fields 66 = .ok (.iload_n 3, 1) := by decide +kernel
theorem d_Mo_fields_67 : decode b_Mo_fields 67 = .ok (.invokevirtual 297, 3) := by decide +kernel
theorem d_Mo_fields_70 : decode b_Mo_fields 70 = .ok (.ifCond .eq 7, 3) := by decide +kernel
theorem d_Mo_fields_73 : decode b_Mo_fields 73 = .ok (.iconst 1, 1) := by decide +kernel
theorem d_Mo_fields_74 : decode b_Mo_fields 74 = .ok (.goto 4, 3) := by decide +kernel
theorem d_Mo_fields_77 : decode b_Mo_fields 77 = .ok (.iconst 0, 1) := by decide +kernel
theorem d_Mo_fields_78 : decode b_Mo_fields 78 = .ok (.istore 4, 2) := by decide +kernel
theorem d_Mo_fields_80 : decode b_Mo_fields 80 = .ok (.iinc 5 1, 3) := by decide +kernel
theorem d_Mo_fields_83 : decode b_Mo_fields 83 = .ok (.goto (-41), 3) := by decide +kernel
theorem d_Mo_fields_86 : decode b_Mo_fields 86 = .ok (.iload_n 2, 1) := by decide +kernel
theorem d_Mo_fields_87 : decode b_Mo_fields 87 = .ok (.iload 4, 2) := by decide +kernel
theorem d_Mo_fields_89 : decode b_Mo_fields 89 = .ok (.ifCond .eq 7, 3) := by decide +kernel
theorem d_Mo_fields_92 : decode b_Mo_fields 92 = .ok (.iconst 0, 1) := by decide +kernel
theorem d_Mo_fields_93 : decode b_Mo_fields 93 = .ok (.goto 4, 3) := by decide +kernel
theorem d_Mo_fields_96 : decode b_Mo_fields 96 = .ok (.iconst 1, 1) := by decide +kernel
theorem d_Mo_fields_97 : decode b_Mo_fields 97 = .ok (.iadd, 1) := by decide +kernel
theorem d_Mo_fields_98 : decode b_Mo_fields 98 = .ok (.istore_n 2, 1) := by decide +kernel
theorem d_Mo_fields_99 : decode b_Mo_fields 99 = .ok (.iinc 3 1, 3) := by decide +kernel
theorem d_Mo_fields_102 : decode b_Mo_fields 102 = .ok (.goto (-93), 3) := by decide +kernel
theorem d_Mo_fields_105 : decode b_Mo_fields 105 = .ok (.iload_n 2, 1) := by decide +kernel
theorem d_Mo_fields_106 : decode b_Mo_fields 106 = .ok (.ireturn, 1) := by decide +kernel
theorem d_Mo_isAlike_0 : decode b_Mo_isAlike 0 = .ok (.aload_n 0, 1) := by decide +kernel
theorem d_Mo_isAlike_1 : decode b_Mo_isAlike 1 = .ok (.iload_n 1, 1) := by decide +kernel
theorem d_Mo_isAlike_2 : decode b_Mo_isAlike 2 = .ok (.invokevirtual 150, 3) := by decide +kernel
theorem d_Mo_isAlike_5 : decode b_Mo_isAlike 5 = .ok (.aload_n 0, 1) := by decide +kernel
theorem d_Mo_isAlike_6 : decode b_Mo_isAlike 6 = .ok (.getfield 71, 3) := by decide +kernel
theorem d_Mo_isAlike_9 : decode b_Mo_isAlike 9 = .ok (.iload_n 1, 1) := by decide +kernel
theorem d_Mo_isAlike_10 : decode b_Mo_isAlike 10 = .ok (.iaload, 1) := by decide +kernel
theorem d_Mo_isAlike_11 : decode b_Mo_isAlike 11 = .ok (.isub, 1) := by decide +kernel
theorem d_Mo_isAlike_12 : decode b_Mo_isAlike 12 = .ok (.istore_n 3, 1) := by decide +kernel
theorem d_Mo_isAlike_13 : decode b_Mo_isAlike 13 = .ok (.aload_n 0, 1) := by decide +kernel
theorem d_Mo_isAlike_14 : decode b_Mo_isAlike 14 = .ok (.iload_n 2, 1) := by decide +kernel
theorem d_Mo_isAlike_15 : decode b_Mo_isAlike 15 = .ok (.invokevirtual 150, 3) := by decide +kernel
theorem d_Mo_isAlike_18 : decode b_Mo_isAlike 18 = .ok (.aload_n 0, 1) := by decide +kernel
theorem d_Mo_isAlike_19 : decode b_Mo_isAlike 19 = .ok (.getfield 71, 3) := by decide +kernel
theorem d_Mo_isAlike_22 : decode b_Mo_isAlike 22 = .ok (.iload_n 2, 1) := by decide +kernel
theorem d_Mo_isAlike_23 : decode b_Mo_isAlike 23 = .ok (.iaload, 1) := by decide +kernel
theorem d_Mo_isAlike_24 : decode b_Mo_isAlike 24 = .ok (.isub, 1) := by decide +kernel
theorem d_Mo_isAlike_25 : decode b_Mo_isAlike 25 = .ok (.iload_n 3, 1) := by decide +kernel
theorem d_Mo_isAlike_26 : decode b_Mo_isAlike 26 = .ok (.if_icmp .eq 5, 3) := by decide +kernel
theorem d_Mo_isAlike_29 : decode b_Mo_isAlike 29 = .ok (.iconst 0, 1) := by decide +kernel
theorem d_Mo_isAlike_30 : decode b_Mo_isAlike 30 = .ok (.ireturn, 1) := by decide +kernel
theorem d_Mo_isAlike_31 : decode b_Mo_isAlike 31 = .ok (.iconst 0, 1) := by decide +kernel
theorem d_Mo_isAlike_32 : decode b_Mo_isAlike 32 = .ok (.istore 4, 2) := by decide +kernel
theorem d_Mo_isAlike_34 : decode b_Mo_isAlike 34 = .ok (.iload 4, 2) := by decide +kernel
theorem d_Mo_isAlike_36 : decode b_Mo_isAlike 36 = .ok (.iload_n 3, 1) := by decide +kernel
theorem d_Mo_isAlike_37 : decode b_Mo_isAlike 37 = .ok (.if_icmp .ge 48, 3) := by decide +kernel
theorem d_Mo_isAlike_40 : decode b_Mo_isAlike 40 = .ok (.aload_n 0, 1) := by decide +kernel
theorem d_Mo_isAlike_41 : decode b_Mo_isAlike 41 = .ok (.getfield 68, 3) := by decide +kernel
theorem d_Mo_isAlike_44 : decode b_Mo_isAlike 44 = .ok (.aload_n 0, 1) := by decide +kernel
theorem d_Mo_isAlike_45 : decode b_Mo_isAlike 45 = .ok (.getfield 71, 3) := by decide +kernel
theorem d_Mo_isAlike_48 : decode b_Mo_isAlike 48 = .ok (.iload_n 1, 1) := by decide +kernel
theorem d_Mo_isAlike_49 : decode b_Mo_isAlike 49 = .ok (.iaload, 1) := by decide +kernel
theorem d_Mo_isAlike_50 : decode b_Mo_isAlike 50 = .ok (.iload 4, 2) := by decide +kernel
theorem d_Mo_isAlike_52 : decode b_Mo_isAlike 52 = .ok (.iadd, 1) := by decide +kernel
theorem d_Mo_isAlike_53 : decode b_Mo_isAlike 53 = .ok (.baload, 1) := by decide +kernel
theorem d_Mo_isAlike_54 : decode b_Mo_isAlike 54 = .ok (.invokestatic 135, 3) := by decide +kernel
theorem d_Mo_isAlike_57 : decode b_Mo_isAlike 57 = .ok (.aload_n 0, 1) := by decide +kernel
theorem d_Mo_isAlike_58 : decode b_Mo_isAlike 58 = .ok (.getfield 68, 3) := by decide +kernel
theorem d_Mo_isAlike_61 : decode b_Mo_isAlike 61 = .ok (.aload_n 0, 1) := by decide +kernel
theorem d_Mo_isAlike_62 : decode b_Mo_isAlike 62 = .ok (.getfield 71, 3) := by decide +kernel
theorem d_Mo_isAlike_65 : decode b_Mo_isAlike 65 = .ok (.iload_n 2, 1) := by decide +kernel
theorem d_Mo_isAlike_66 : decode b_Mo_isAlike 66 = .ok (.iaload, 1) := by decide +kernel
theorem d_Mo_isAlike_67 : decode b_Mo_isAlike 67 = .ok (.iload 4, 2) := by decide +kernel
theorem d_Mo_isAlike_69 : decode b_Mo_isAlike 69 = .ok (.iadd, 1) := by decide +kernel
theorem d_Mo_isAlike_70 : decode b_Mo_isAlike 70 = .ok (.baload, 1) := by decide +kernel
theorem d_Mo_isAlike_71 : decode b_Mo_isAlike 71 = .ok (.invokestatic 135, 3) := by decide +kernel
theorem d_Mo_isAlike_74 : decode b_Mo_isAlike 74 = .ok (.if_icmp .eq 5, 3) := by decide +kernel
theorem d_Mo_isAlike_77 : decode b_Mo_isAlike 77 = .ok (.iconst 0, 1) := by decide +kernel
theorem d_Mo_isAlike_78 : decode b_Mo_isAlike 78 = .ok (.ireturn, 1) := by decide +kernel
theorem d_Mo_isAlike_79 : decode b_Mo_isAlike 79 = .ok (.iinc 4 1, 3) := by decide +kernel
theorem d_Mo_isAlike_82 : decode b_Mo_isAlike 82 = .ok (.goto (-48), 3) := by decide +kernel
theorem d_Mo_isAlike_85 : decode b_Mo_isAlike 85 = .ok (.iconst 1, 1) := by decide +kernel
theorem d_Mo_isAlike_86 : decode b_Mo_isAlike 86 = .ok (.ireturn, 1) := by decide +kernel
theorem d_Mo_entity_0 : decode b_Mo_entity 0 = .ok (.iload_n 1, 1) := by decide +kernel
theorem d_Mo_entity_1 : decode b_Mo_entity 1 = .ok (.istore_n 3, 1) := by decide +kernel
theorem d_Mo_entity_2 : decode b_Mo_entity 2 = .ok (.aload_n 0, 1) := by decide +kernel
theorem d_Mo_entity_3 : decode b_Mo_entity 3 = .ok (.iload_n 3, 1) := by decide +kernel
theorem d_Mo_entity_4 : decode b_Mo_entity 4 = .ok (.invokevirtual 301, 3) := by decide +kernel
theorem d_Mo_entity_7 : decode b_Mo_entity 7 = .ok (.ifCond .ne 5, 3) := by decide +kernel
theorem d_Mo_entity_10 : decode b_Mo_entity 10 = .ok (.iconst (-1), 1) := by decide +kernel
theorem d_Mo_entity_11 : decode b_Mo_entity 11 = .ok (.ireturn, 1) := by decide +kernel
theorem d_Mo_entity_12 : decode b_Mo_entity 12 = .ok (.iload_n 2, 1) := by decide +kernel
theorem d_Mo_entity_13 : decode b_Mo_entity 13 = .ok (.tableswitch 175 0 9 #[55, 62, 69, 76, 90, 101, 135, 149, 163, 169], 55) := by decide +kernel
theorem d_Mo_entity_68 : decode b_Mo_entity 68 = .ok (.aload_n 0, 1) := by decide +kernel
theorem d_Mo_entity_69 : decode b_Mo_entity 69 = .ok (.getfield 95, 3) := by decide +kernel
theorem d_Mo_entity_72 : decode b_Mo_entity 72 = .ok (.iload_n 3, 1) := by decide +kernel
theorem d_Mo_entity_73 : decode b_Mo_entity 73 = .ok (.iaload, 1) := by decide +kernel
theorem d_Mo_entity_74 : decode b_Mo_entity 74 = .ok (.ireturn, 1) := by decide +kernel
theorem d_Mo_entity_75 : decode b_Mo_entity 75 = .ok (.aload_n 0, 1) := by decide +kernel
theorem d_Mo_entity_76 : decode b_Mo_entity 76 = .ok (.getfield 89, 3) := by decide +kernel
theorem d_Mo_entity_79 : decode b_Mo_entity 79 = .ok (.iload_n 3, 1) := by decide +kernel
theorem d_Mo_entity_80 : decode b_Mo_entity 80 = .ok (.iaload, 1) := by decide +kernel
theorem d_Mo_entity_81 : decode b_Mo_entity 81 = .ok (.ireturn, 1) := by decide +kernel
theorem d_Mo_entity_82 : decode b_Mo_entity 82 = .ok (.aload_n 0, 1) := by decide +kernel
theorem d_Mo_entity_83 : decode b_Mo_entity 83 = .ok (.getfield 92, 3) := by decide +kernel
theorem d_Mo_entity_86 : decode b_Mo_entity 86 = .ok (.iload_n 3, 1) := by decide +kernel
theorem d_Mo_entity_87 : decode b_Mo_entity 87 = .ok (.iaload, 1) := by decide +kernel
theorem d_Mo_entity_88 : decode b_Mo_entity 88 = .ok (.ireturn, 1) := by decide +kernel
theorem d_Mo_entity_89 : decode b_Mo_entity 89 = .ok (.aload_n 0, 1) := by decide +kernel
theorem d_Mo_entity_90 : decode b_Mo_entity 90 = .ok (.iload_n 3, 1) := by decide +kernel
theorem d_Mo_entity_91 : decode b_Mo_entity 91 = .ok (.invokevirtual 271, 3) := by decide +kernel
theorem d_Mo_entity_94 : decode b_Mo_entity 94 = .ok (.ifCond .eq 7, 3) := by decide +kernel
theorem d_Mo_entity_97 : decode b_Mo_entity 97 = .ok (.iconst 1, 1) := by decide +kernel
theorem d_Mo_entity_98 : decode b_Mo_entity 98 = .ok (.goto 4, 3) := by decide +kernel
theorem d_Mo_entity_101 : decode b_Mo_entity 101 = .ok (.iconst 0, 1) := by decide +kernel
theorem d_Mo_entity_102 : decode b_Mo_entity 102 = .ok (.ireturn, 1) := by decide +kernel
theorem d_Mo_entity_103 : decode b_Mo_entity 103 = .ok (.aload_n 0, 1) := by decide +kernel
theorem d_Mo_entity_104 : decode b_Mo_entity 104 = .ok (.aload_n 0, 1) := by decide +kernel
theorem d_Mo_entity_105 : decode b_Mo_entity 105 = .ok (.getfield 77, 3) := by decide +kernel
theorem d_Mo_entity_108 : decode b_Mo_entity 108 = .ok (.iload_n 3, 1) := by decide +kernel
theorem d_Mo_entity_109 : decode b_Mo_entity 109 = .ok (.iaload, 1) := by decide +kernel
theorem d_Mo_entity_110 : decode b_Mo_entity 110 = .ok (.invokevirtual 304, 3) := by decide +kernel
theorem d_Mo_entity_113 : decode b_Mo_entity 113 = .ok (.ireturn, 1) := by decide +kernel
theorem d_Mo_entity_114 : decode b_Mo_entity 114 = .ok (.aload_n 0, 1) := by decide +kernel
theorem d_Mo_entity_115 : decode b_Mo_entity 115 = .ok (.getfield 86, 3) := by decide +kernel
theorem d_Mo_entity_118 : decode b_Mo_entity 118 = .ok (.iload_n 3, 1) := by decide +kernel
theorem d_Mo_entity_119 : decode b_Mo_entity 119 = .ok (.iaload, 1) := by decide +kernel
theorem d_Mo_entity_120 : decode b_Mo_entity 120 = .ok (.aload_n 0, 1) := by decide +kernel
theorem d_Mo_entity_121 : decode b_Mo_entity 121 = .ok (.getfield 80, 3) := by decide +kernel
theorem d_Mo_entity_124 : decode b_Mo_entity 124 = .ok (.iload_n 3, 1) := by decide +kernel
theorem d_Mo_entity_125 : decode b_Mo_entity 125 = .ok (.iaload, 1) := by decide +kernel
theorem d_Mo_entity_126 : decode b_Mo_entity 126 = .ok (.if_icmp .ge 17, 3) := by decide +kernel
theorem d_Mo_entity_129 : decode b_Mo_entity 129 = .ok (.aload_n 0, 1) := by decide +kernel
theorem d_Mo_entity_130 : decode b_Mo_entity 130 = .ok (.getfield 71, 3) := by decide +kernel
theorem d_Mo_entity_133 : decode b_Mo_entity 133 = .ok (.aload_n 0, 1) := by decide +kernel
theorem d_Mo_entity_134 : decode b_Mo_entity 134 = .ok (.getfield 86, 3) := by decide +kernel
theorem d_Mo_entity_137 : decode b_Mo_entity 137 = .ok (.iload_n 3, 1) := by decide +kernel
theorem d_Mo_entity_138 : decode b_Mo_entity 138 = .ok (.iaload, 1) := by decide +kernel
theorem d_Mo_entity_139 : decode b_Mo_entity 139 = .ok (.iaload, 1) := by decide +kernel
theorem d_Mo_entity_140 : decode b_Mo_entity 140 = .ok (.goto 7, 3) := by decide +kernel
theorem d_Mo_entity_143 : decode b_Mo_entity 143 = .ok (.aload_n 0, 1) := by decide +kernel
theorem d_Mo_entity_144 : decode b_Mo_entity 144 = .ok (.getfield 143, 3) := by decide +kernel
theorem d_Mo_entity_147 : decode b_Mo_entity 147 = .ok (.ireturn, 1) := by decide +kernel
theorem d_Mo_entity_148 : decode b_Mo_entity 148 = .ok (.aload_n 0, 1) := by decide +kernel
theorem d_Mo_entity_149 : decode b_Mo_entity 149 = .ok (.getfield 83, 3) := by decide +kernel
theorem d_Mo_entity_152 : decode b_Mo_entity 152 = .ok (.iload_n 3, 1) := by decide +kernel
theorem d_Mo_entity_153 : decode b_Mo_entity 153 = .ok (.iaload, 1) := by decide +kernel
theorem d_Mo_entity_154 : decode b_Mo_entity 154 = .ok (.aload_n 0, 1) := by decide +kernel
theorem d_Mo_entity_155 : decode b_Mo_entity 155 = .ok (.getfield 77, 3) := by decide +kernel
theorem d_Mo_entity_158 : decode b_Mo_entity 158 = .ok (.iload_n 3, 1) := by decide +kernel
theorem d_Mo_entity_159 : decode b_Mo_entity 159 = .ok (.iaload, 1) := by decide +kernel
theorem d_Mo_entity_160 : decode b_Mo_entity 160 = .ok (.isub, 1) := by decide +kernel
theorem d_Mo_entity_161 : decode b_Mo_entity 161 = .ok (.ireturn, 1) := by decide +kernel
theorem d_Mo_entity_162 : decode b_Mo_entity 162 = .ok (.aload_n 0, 1) := by decide +kernel
theorem d_Mo_entity_163 : decode b_Mo_entity 163 = .ok (.getfield 80, 3) := by decide +kernel
theorem d_Mo_entity_166 : decode b_Mo_entity 166 = .ok (.iload_n 3, 1) := by decide +kernel
theorem d_Mo_entity_167 : decode b_Mo_entity 167 = .ok (.iaload, 1) := by decide +kernel
theorem d_Mo_entity_168 : decode b_Mo_entity 168 = .ok (.aload_n 0, 1) := by decide +kernel
theorem d_Mo_entity_169 : decode b_Mo_entity 169 = .ok (.getfield 86, 3) := by decide +kernel
theorem d_Mo_entity_172 : decode b_Mo_entity 172 = .ok (.iload_n 3, 1) := by decide +kernel
theorem d_Mo_entity_173 : decode b_Mo_entity 173 = .ok (.iaload, 1) := by decide +kernel
theorem d_Mo_entity_174 : decode b_Mo_entity 174 = .ok (.isub, 1) := by decide +kernel
theorem d_Mo_entity_175 : decode b_Mo_entity 175 = .ok (.ireturn, 1) := by decide +kernel
theorem d_Mo_entity_176 : decode b_Mo_entity 176 = .ok (.aload_n 0, 1) := by decide +kernel
theorem d_Mo_entity_177 : decode b_Mo_entity 177 = .ok (.iload_n 3, 1) := by decide +kernel
theorem d_Mo_entity_178 : decode b_Mo_entity 178 = .ok (.invokevirtual 307, 3) := by decide +kernel
theorem d_Mo_entity_181 : decode b_Mo_entity 181 = .ok (.ireturn, 1) := by decide +kernel
theorem d_Mo_entity_182 : decode b_Mo_entity 182 = .ok (.aload_n 0, 1) := by decide +kernel
theorem d_Mo_entity_183 : decode b_Mo_entity 183 = .ok (.iload_n 3, 1) := by decide +kernel
theorem d_Mo_entity_184 : decode b_Mo_entity 184 = .ok (.invokevirtual 310, 3) := by decide +kernel
theorem d_Mo_entity_187 : decode b_Mo_entity 187 = .ok (.ireturn, 1) := by decide +kernel
theorem d_Mo_entity_188 : decode b_Mo_entity 188 = .ok (.iconst (-1), 1) := by decide +kernel
theorem d_Mo_entity_189 : decode b_Mo_entity 189 = .ok (.ireturn, 1) := by decide +kernel
end
section
/-! LAYER 0. The heap as a map: an address to an object (its class's place, its fields) or an array (its type's place, its length, its contents). Rows of the kit over it. -/
abbrev xE : Type := (Nat × vp_A) ⊕ (Nat × List Value)
abbrev xhp : Type := Nat → Option xE
/-- classes' numbers and slots, array classes by the places of xTY, the literals' addresses -/
abbrev xG : Type := va_G × (Nat → ClassId) × (Nat → Nat) × (Nat → Nat)
def xtr (kk : Nat → ClassId) : xE → va_E
  | .inl (t, x) => .inl (kk t, x)
  | .inr o => .inr o
def xg (kk : Nat → ClassId) (f : xhp) : Nat → va_E := fun a => match f a with
  | some e => xtr kk e
  | none => .inr (0, [])
def xHP (G : xG) (f : xhp) (H : Heap) : Prop := ∃ L : List Nat, L.Nodup ∧ (∀ a, a ∈ L ↔ (f a).isSome = true) ∧ va_P G.1 vwCl (va_pl L (xg G.2.1 f)) H
def xA (f : xhp) (sz : Nat) : Nat → Prop := fun q => (f q).isSome = true ∨ sz ≤ q
def xW (G : xG) (A : Nat → Prop) (s : State) (f : xhp) (H : Heap) (locs : List Loc) : Prop := xHP G f H ∧ (∀ a, (f a).isSome = true → A a) ∧ va_S A s.heap H locs
def xup (f : xhp) (a : Nat) (e : xE) : xhp := fun j => if j = a then some e else f j
def xlet {α : Sort _} {β : Sort _} (a : α) (k : α → β) : β := k a
def xV (f : xhp) (a ci k : Nat) (v : Value) : Prop := ∃ fs : List Value, f a = some (.inr (ci, fs)) ∧ fs[k]? = some v
def xO (f : xhp) (a ci : Nat) : Prop := ∃ fs : List Value, f a = some (.inr (ci, fs))
def xbI (g : Nat → Int32) : (Nat → Int32) ⊕ (Nat → Int64) ⊕ (Nat → UInt32) ⊕ (Nat → UInt64) ⊕ (Nat → Option Nat) := .inl g
def xbR (g : Nat → Option Nat) : (Nat → Int32) ⊕ (Nat → Int64) ⊕ (Nat → UInt32) ⊕ (Nat → UInt64) ⊕ (Nat → Option Nat) := .inr (.inr (.inr (.inr g)))
def xB (f : xhp) (a t n : Nat) (b : (Nat → Int32) ⊕ (Nat → Int64) ⊕ (Nat → UInt32) ⊕ (Nat → UInt64) ⊕ (Nat → Option Nat)) : Prop := f a = some (.inl (t, n, b))
abbrev xbd : Type := (Nat → Int32) ⊕ (Nat → Int64) ⊕ (Nat → UInt32) ⊕ (Nat → UInt64) ⊕ (Nat → Option Nat)
def xbL (g : Nat → Int64) : xbd := .inr (.inl g)
def xz (v : Int32) : Prop := v = 0 ∨ v = 1
theorem xup_self (f : xhp) (a : Nat) (e : xE) : xup f a e a = some e := if_pos rfl
theorem xup_ne (f : xhp) {a b : Nat} (e : xE) (h : b ≠ a) : xup f a e b = f b := if_neg h
theorem xg_up (kk : Nat → ClassId) (f : xhp) (a : Nat) (e : xE) : xg kk (xup f a e) = va_up (xg kk f) a (xtr kk e) := by
  funext j
  by_cases h : j = a
  · subst h; simp [xg, xup, va_up]
  · simp [xg, xup, va_up, h]
theorem xpl_D {A : Nat → Prop} {L : List Nat} {F : Nat → va_E} (hn : L.Nodup) (hA : ∀ a ∈ L, A a) : va_D A (va_pl L F) := by
  refine ⟨fun i j p q hi hj e => ?_, fun k q hk => ?_⟩
  · simp only [va_pl, List.getElem?_map] at hi hj
    obtain ⟨a, ha, rfl⟩ := Option.map_eq_some_iff.mp hi
    obtain ⟨b, hb, rfl⟩ := Option.map_eq_some_iff.mp hj
    have e : a = b := e
    subst e
    obtain ⟨h1, h2⟩ := List.getElem?_eq_some_iff.mp ha
    obtain ⟨h3, h4⟩ := List.getElem?_eq_some_iff.mp hb
    exact (List.getElem?_inj h1 hn).mp (ha.trans hb.symm)
  · simp only [va_pl, List.getElem?_map] at hk
    obtain ⟨a, ha, rfl⟩ := Option.map_eq_some_iff.mp hk
    exact hA a (List.mem_of_getElem? ha)
/-- the pool's place of a cell -/
theorem xHP.place {G : xG} {f : xhp} {H : Heap} {a : Nat} {e : xE} (h : xHP G f H) (hf : f a = some e) : ∃ (L : List Nat) (k : Nat), L.Nodup ∧ (∀ a, a ∈ L ↔ (f a).isSome = true) ∧ va_P G.1 vwCl (va_pl L (xg G.2.1 f)) H ∧ (va_pl L (xg G.2.1 f))[k]? = some (a, xtr G.2.1 e) ∧ a ∈ L := by
  obtain ⟨L, hn, hd, hP⟩ := h
  have ha : a ∈ L := (hd a).mpr (by rw [hf]; rfl)
  obtain ⟨k, hk⟩ := va_pl_get (X := []) (f := xg G.2.1 f) ha
  refine ⟨L, k, hn, hd, hP, ?_, ha⟩
  have e1 : xg G.2.1 f a = xtr G.2.1 e := by simp [xg, hf]
  rw [← e1]
  exact hk
/-- the pool behind a write -/
theorem xHP.wrote {G : xG} {A : Nat → Prop} {f : xhp} {H : Heap} {L : List Nat} {k a : Nat} {e0 e : xE} (hn : L.Nodup) (hd : ∀ a, a ∈ L ↔ (f a).isSome = true) (hf : f a = some e0) (ha : a ∈ L) (hD : va_D A (va_pl L (xg G.2.1 f))) (hk : (va_pl L (xg G.2.1 f))[k]? = some (a, xtr G.2.1 e0))
    (hP : va_P G.1 vwCl ((va_pl L (xg G.2.1 f)).set k (a, xtr G.2.1 e)) H) : xHP G (xup f a e) H := by
  have e1 : xg G.2.1 f a = xtr G.2.1 e0 := by simp [xg, hf]
  have h2 := va_pl_set (X := []) (e := xtr G.2.1 e) hD ha (by rw [e1]; exact hk)
  simp only [List.nil_append] at h2
  rw [h2, ← xg_up] at hP
  refine ⟨L, hn, fun b => ?_, hP⟩
  by_cases hb : b = a
  · subst hb; simp [xup, ha]
  · rw [xup_ne _ _ hb]; exact hd b
theorem xA_dom {f : xhp} {a : Nat} {A : Nat → Prop} {e0 e : xE} (hf : f a = some e0) (h : ∀ a, (f a).isSome = true → A a) : ∀ b, (xup f a e b).isSome = true → A b := by
  intro b hb
  by_cases hx : b = a
  · subst hx; exact h b (by rw [hf]; rfl)
  · rw [xup_ne _ _ hx] at hb; exact h b hb
abbrev xnS : Nat := 17
def xlenS : List Nat := [12, 25, 19, 8, 8, 4, 14, 10, 5, 9, 10, 21, 16, 10, 4, 4, 6]
def xbytS : List (List Int32) := [[99, 111, 110, 116, 101, 110, 116, 45, 116, 121, 112, 101], [99, 111, 110, 116, 101, 110, 116, 45, 116, 114, 97, 110, 115, 102, 101, 114, 45, 101, 110, 99, 111, 100, 105, 110, 103], [99, 111, 110, 116, 101, 110, 116, 45, 100, 105, 115, 112, 111, 115, 105, 116, 105, 111, 110], [98, 111, 117, 110, 100, 97, 114, 121], [102, 105, 108, 101, 110, 97, 109, 101], [110, 97, 109, 101], [109, 101, 115, 115, 97, 103, 101, 47, 114, 102, 99, 56, 50, 50], [116, 101, 120, 116, 47, 112, 108, 97, 105, 110], [116, 101, 120, 116, 47], [116, 101, 120, 116, 47, 104, 116, 109, 108], [109, 117, 108, 116, 105, 112, 97, 114, 116, 47], [109, 117, 108, 116, 105, 112, 97, 114, 116, 47, 97, 108, 116, 101, 114, 110, 97, 116, 105, 118, 101], [109, 117, 108, 116, 105, 112, 97, 114, 116, 47, 100, 105, 103, 101, 115, 116], [97, 116, 116, 97, 99, 104, 109, 101, 110, 116], [55, 98, 105, 116], [56, 98, 105, 116], [98, 105, 110, 97, 114, 121]]
/-- the literals: class, place in its pool, text, number -/
def xstr : List (String × Nat × String × Nat) := [("MailParts", 35, "content-type", 0), ("MailParts", 44, "content-transfer-encoding", 1), ("MailParts", 49, "content-disposition", 2), ("MailParts", 54, "boundary", 3), ("MailParts", 59, "filename", 4), ("MailParts", 64, "name", 5), ("MailParts", 244, "message/rfc822", 6), ("MailParts", 296, "text/plain", 7), ("MailParts", 231, "text/", 8), ("MailParts", 237, "text/html", 9), ("MailParts", 242, "multipart/", 10), ("MailParts", 246, "multipart/alternative", 11), ("MailParts", 251, "multipart/digest", 12), ("MailParts", 259, "attachment", 13), ("MailParts", 280, "7bit", 14), ("MailParts", 282, "8bit", 15), ("MailParts", 284, "binary", 16)]
theorem kx_max_static : Cond.static Lib.Math.max.name ∈ lw_tbl := kw_27
theorem kx_min_static : Cond.static Lib.Math.min.name ∈ lw_tbl := kw_390
theorem kx_max_init : Cond.initialized "java/lang/Math" ∈ lw_tbl := kw_3
theorem kx_max_code : Cond.code Lib.Math.max.name Lib.Math.max.code 2 (some .int) ∈ lw_tbl := kw_28
theorem kx_min_code : Cond.code Lib.Math.min.name Lib.Math.min.code 2 (some .int) ∈ lw_tbl := kw_391
theorem kx_obj_inst : Cond.instanceMethod objectInit ∈ lw_tbl := kw_18
theorem kx_obj_code : Cond.code objectInit ⟨#[0xb1]⟩ 1 none ∈ lw_tbl := kw_19
end
section
/-! LAYER 0, the machine's rows over the map heap -/
abbrev xrm (d mc ms : Nat) : Room := { frames := d, cells := mc, slots := ms, locals := 40 * d }
/-- array classes by their places -/
def xTY (kk : Nat → ClassId) : List (ClassId × FieldType) := [(kk 0, .int), (kk 1, .object "MailParts$Row"), (kk 2, .object "MailParts$Entity"), (kk 3, .byte), (kk 4, .long)]
abbrev xnT : Nat := 5
/-- the tables' words -/
def xWd (U : State) : Prop := ∀ w ∈ lw_tbl, w.onTables = true → w.keepsH = true → ∀ a : Array Value, w.before a U = true
/-- the words that make arrays -/
def xWa (U : State) : Prop := (∀ ty ∈ [FieldType.int, FieldType.byte, FieldType.long], ∀ a : Array Value, (Cond.arrayClass ty).before a U = true) ∧ va_AO "MailParts$Row" U ∧ va_AO "MailParts$Entity" U
/-- what stays for a whole method: words, classes, array classes, literals, two statics of the JDK's -/
def xK (G : xG) (A : Nat → Prop) (U : State) (H : Heap) : Prop := xWd U ∧ xWa U ∧ va_K G.1 vwCl (xTY G.2.1) U ∧ vk_S xnS xlenS xbytS G.2.2.1 G.2.2.2 A U H ∧ (∀ q ∈ xstr, vk_R q.1 q.2.1 q.2.2.1 (G.2.2.1 q.2.2.2) U) ∧ va_Z "java/lang/String" "COMPACT_STRINGS" "Z" (.int 1) A U H ∧ va_Zq "jdk/internal/util/Preconditions" "SIOOBE_FORMATTER" "Ljava/util/function/BiFunction;" A U H
def xX (p : Program) (R : Room) (s : State) (m : MethodId) (args : Array Value) (meth : Method) (c : Code) (G : xG) (A : Nat → Prop) (cc : ByteArray) (nL : Nat) (own : String) (ret : Option FieldType) (d mc ms : Nat) : Prop :=
  p.tables.exec = Jvm.exec ∧ c.code = cc ∧ c.maxLocals = nL ∧ s.vm.findClass own = some m.cls ∧ xK G A s s.heap ∧ meth.sig.returnType = ret ∧ meth.locks = false ∧ (∀ q, s.heap.size ≤ q → A q) ∧ d ≤ R.frames ∧ 40 * d ≤ R.locals ∧ mc = R.cells ∧ ms = R.slots
def xPre (G : xG) (f : xhp) (sz : Nat) (U : State) : Prop := U.heap.size = sz ∧ xHP G f U.heap ∧ xK G (xA f sz) U U.heap
def xAt (G : xG) (f0 : xhp) (sz : Nat) (f : xhp) (t : State) : Prop := xHP G f t.heap ∧ ∀ a, (f a).isSome = true → xA f0 sz a
abbrev xMi (l : Launch) (G : xG) (y : MethodName) (cc : ByteArray) (nL : Nat) (ret : Option FieldType) (d mc ms : Nat) (av : List Value) (f : xhp) (post : Int32 → xhp → Prop) : Prop := ∀ sz, Met l y [.code y cc nL ret] (xrm d mc ms) (va_Pc av (xPre G f sz)) (va_Qi post (xAt G f sz) (xA f sz)) mc ms (xA f sz)
abbrev xMl (l : Launch) (G : xG) (y : MethodName) (cc : ByteArray) (nL : Nat) (ret : Option FieldType) (d mc ms : Nat) (av : List Value) (f : xhp) (post : Int64 → xhp → Prop) : Prop := ∀ sz, Met l y [.code y cc nL ret] (xrm d mc ms) (va_Pc av (xPre G f sz)) (va_Ql post (xAt G f sz) (xA f sz)) mc ms (xA f sz)
abbrev xMv (l : Launch) (G : xG) (y : MethodName) (cc : ByteArray) (nL : Nat) (ret : Option FieldType) (d mc ms : Nat) (av : List Value) (f : xhp) (post : xhp → Prop) : Prop := ∀ sz, Met l y [.code y cc nL ret] (xrm d mc ms) (va_Pc av (xPre G f sz)) (va_Qv post (xAt G f sz) (xA f sz)) mc ms (xA f sz)
abbrev xMq (l : Launch) (G : xG) (y : MethodName) (cc : ByteArray) (nL : Nat) (ret : Option FieldType) (d mc ms : Nat) (av : List Value) (f : xhp) (post : Option Nat → xhp → Prop) : Prop := ∀ sz, Met l y [.code y cc nL ret] (xrm d mc ms) (va_Pc av (xPre G f sz)) (va_Qq post (xAt G f sz) (xA f sz)) mc ms (xA f sz)
theorem xWd.same {u U : State} (hv : u.vm = U.vm) (h : xWd u) : xWd U := fun w hw h1 h2 a => va_tabs h1 hv (h w hw h1 h2 #[])
theorem xWd.warm {s U : State} (hW : s.WarmedH U.vm) (h : xWd s) : xWd U := fun w hw h1 h2 a => by
  have h3 := Cond.onTables_warmH (T := U) (args' := a) hW h1 h2 (h w hw h1 h2 #[])
  rwa [State.setVm_self] at h3
theorem xWa.warm {s U : State} (hW : s.WarmedH U.vm) (h : xWa s) : xWa U := ⟨fun ty ht a => word_at hW (Or.inr ⟨ty, rfl⟩) (h.1 ty ht #[]), h.2.1.moved hW.alike, h.2.2.moved hW.alike⟩
theorem xWa.same {u U : State} (hv : u.vm = U.vm) (h : xWa u) : xWa U := ⟨fun ty ht a => by
  have h1 := h.1 ty ht a
  simp only [Cond.before, Cond.holds, Cond.value] at h1 ⊢
  rw [← hv]
  exact h1, h.2.1.moved (by rw [hv]; exact Vm.Alike.refl U.vm), h.2.2.moved (by rw [hv]; exact Vm.Alike.refl U.vm)⟩
theorem xK.blind {G : xG} {A : Nat → Prop} {U : State} {H : Heap} (g : JFrame) (mk : MethodId) (a : Array Value) (h : xK G A U H) : xK G A (U.calling g mk a) H :=
  ⟨xWd.same (u := U) rfl h.1, xWa.same (u := U) rfl h.2.1, va_K.moved (u := U) (U := U.calling g mk a) (Vm.Alike.refl U.vm) h.2.2.1, vk_S.moved (u := U) (U := U.calling g mk a) (Vm.Alike.refl U.vm) h.2.2.2.1, fun q hq => vk_R.same (u := U) rfl (h.2.2.2.2.1 q hq), va_Z.moved (u := U) (U := U.calling g mk a) (Vm.Alike.refl U.vm) h.2.2.2.2.2.1, va_Zq.moved (u := U) (U := U.calling g mk a) (Vm.Alike.refl U.vm) h.2.2.2.2.2.2⟩
theorem xPre.blind (G : xG) (f : xhp) (sz : Nat) (av : List Value) : FrameBlind (va_Pc av (xPre G f sz)) :=
  fun a U g mk q => ⟨q.1, q.2.1, q.2.2.1, q.2.2.2.blind g mk a⟩
theorem x_cat (r : Option Nat) : (va_rf r).category = 1 := by cases r <;> rfl
theorem xz_nar {v : Int32} (h : xz v) : narrow .boolean (.int v) = .int v := by rcases h with rfl | rfl <;> decide +kernel
theorem xz_fit {v : Int32} (h : xz v) : fits .boolean (.int v) = true := by rcases h with rfl | rfl <;> decide +kernel
theorem xTY_at (kk : Nat → ClassId) {t : Nat} (h : t < xnT) : ∃ ty, (xTY kk)[t]? = some (kk t, ty) := by
  rcases (show t = 0 ∨ t = 1 ∨ t = 2 ∨ t = 3 ∨ t = 4 by unfold xnT at h; omega) with rfl | rfl | rfl | rfl | rfl <;> exact ⟨_, rfl⟩
/-- array types of references and the classes of what lies in them -/
def xTC (t ci : Nat) : Prop := (t = 1 ∧ ci = 2) ∨ (t = 2 ∧ ci = 0)
section XL
variable {p : Program} {l : Launch} {e : Env} {R : Room} {s : State} {m : MethodId} {args : Array Value} {below : List Frame} {meth : Method} {c : Code} {H : Heap} {locs : List Loc} {cells slots : Nat} {Q : State → Prop}
variable {cc : ByteArray} {pc : Nat} {ls : Array Slot} {rest : List Value} {G : xG} {A : Nat → Prop} {f : xhp} {nL d mc ms : Nat} {own : String} {ret : Option FieldType}
theorem x_aload_n (hx : p.tables.exec = Jvm.exec) (hb : c.code = cc) {k : Fin 4} {i : Nat} {r : Option Nat} (hdg : decode cc pc = .ok (.aload_n k, 1)) (hi : (k : Nat) = i) (hl : ls[i]? = some (.val (va_rf r)))
    (kk : W p l e R s m args below meth c H locs cells slots Q (F0 m (pc + 1) ls (va_rf r :: rest))) : W p l e R s m args below meth c H locs cells slots Q (F0 m pc ls rest) := by
  cases r with
  | none => exact lv_aload_nN hx hb hdg hi hl kk
  | some a => exact lv_aload_n hx hb hdg hi hl kk
theorem x_aload (hx : p.tables.exec = Jvm.exec) (hb : c.code = cc) {i : Nat} {r : Option Nat} (hdg : decode cc pc = .ok (.aload i, 2)) (hl : ls[i]? = some (.val (va_rf r)))
    (kk : W p l e R s m args below meth c H locs cells slots Q (F0 m (pc + 2) ls (va_rf r :: rest))) : W p l e R s m args below meth c H locs cells slots Q (F0 m pc ls rest) := by
  cases r with
  | none => exact lv_aloadN hx hb hdg hl kk
  | some a => exact lv_aload hx hb hdg hl kk
theorem x_astore_n (hx : p.tables.exec = Jvm.exec) (hb : c.code = cc) {k : Fin 4} {i nL : Nat} {r : Option Nat} {lv lv' : List (Nat × Value)} (hdg : decode cc pc = .ok (.astore_n k, 1)) (hi : (k : Nat) = i) (h : lv_has ls nL lv) (hn : i < nL) (hl : (i, va_rf r) :: lv.filter (fun q => !(q.1 == i) && !(q.1 + 1 == i && q.2.category == 2)) = lv')
    (kk : ∀ ls' : Array Slot, lv_has ls' nL lv' → W p l e R s m args below meth c H locs cells slots Q (F0 m (pc + 1) ls' rest)) : W p l e R s m args below meth c H locs cells slots Q (F0 m pc ls (va_rf r :: rest)) := by
  cases r with
  | none => exact lv_astore_nN hx hb hdg hi h hn hl kk
  | some a => exact lv_astore_n hx hb hdg hi h hn hl kk
theorem x_astore (hx : p.tables.exec = Jvm.exec) (hb : c.code = cc) {i nL : Nat} {r : Option Nat} {lv lv' : List (Nat × Value)} (hdg : decode cc pc = .ok (.astore i, 2)) (h : lv_has ls nL lv) (hn : i < nL) (hl : (i, va_rf r) :: lv.filter (fun q => !(q.1 == i) && !(q.1 + 1 == i && q.2.category == 2)) = lv')
    (kk : ∀ ls' : Array Slot, lv_has ls' nL lv' → W p l e R s m args below meth c H locs cells slots Q (F0 m (pc + 2) ls' rest)) : W p l e R s m args below meth c H locs cells slots Q (F0 m pc ls (va_rf r :: rest)) := by
  cases r with
  | none => exact lv_astoreN hx hb hdg h hn hl kk
  | some a => exact lv_astore hx hb hdg h hn hl kk
theorem x_get (hX : xX p R s m args meth c G A cc nL own ret d mc ms) (hW : xW G A s f H locs) {C ref : String} {T : u_T} {N ci k index a : Nat} {v : Value} (hv : xV f a ci k v) (hin : ∀ w ∈ u_ws C T N, w ∈ lw_tbl ∧ w.onTables = true ∧ w.keepsH = true) (hc : vwCl[ci]? = some (C, T, N)) (hk : k < N) (hl : Cond.fieldLink own index ref (T k).2.1 (T k).2.2.1 ∈ lw_tbl) (hdecl : (T k).1 = ref) (hdg : decode cc pc = .ok (.getfield index, 3))
    (kk : W p l e R s m args below meth c H locs cells slots Q (F0 m (pc + 3) ls (v :: rest))) : W p l e R s m args below meth c H locs cells slots Q (F0 m pc ls (.ref a :: rest)) := by
  obtain ⟨fs, h1, h2⟩ := hv
  obtain ⟨hx, hb, hml, hown, hK, -⟩ := hX
  obtain ⟨L, q0, hn, hd, hP, hq, ha⟩ := hW.1.place h1
  exact va_get (Ts := u_ws C T N) hx hb (fun w hw => hK.1 w (hin w hw).1 (hin w hw).2.1 (hin w hw).2.2 _) (fun _ h => h) hown hK.2.2.1 hP q0 hq hc k hk (hK.1 _ hl rfl rfl _) (fun x h => by rw [hdecl] at h; exact h) h2 hdg kk
theorem x_getN (hX : xX p R s m args meth c G A cc nL own ret d mc ms) (hW : xW G A s f H locs) {C ref host : String} {T : u_T} {N ci k index a : Nat} {v : Value} (hv : xV f a ci k v) (hin : ∀ w ∈ u_ws C T N, w ∈ lw_tbl ∧ w.onTables = true ∧ w.keepsH = true) (hc : vwCl[ci]? = some (C, T, N)) (hk : k < N) (hl : Cond.fieldLinkNest own index ref (T k).2.1 (T k).2.2.1 host ∈ lw_tbl) (hdecl : (T k).1 = ref) (hdg : decode cc pc = .ok (.getfield index, 3))
    (kk : W p l e R s m args below meth c H locs cells slots Q (F0 m (pc + 3) ls (v :: rest))) : W p l e R s m args below meth c H locs cells slots Q (F0 m pc ls (.ref a :: rest)) := by
  obtain ⟨fs, h1, h2⟩ := hv
  obtain ⟨hx, hb, hml, hown, hK, -⟩ := hX
  obtain ⟨L, q0, hn, hd, hP, hq, ha⟩ := hW.1.place h1
  exact va_getN (Ts := u_ws C T N) hx hb (fun w hw => hK.1 w (hin w hw).1 (hin w hw).2.1 (hin w hw).2.2 _) (fun _ h => h) hown hK.2.2.1 hP q0 hq hc k hk (hK.1 _ hl rfl rfl _) (fun x h => by rw [hdecl] at h; exact h) h2 hdg kk
theorem x_put (hX : xX p R s m args meth c G A cc nL own ret d mc ms) (hW : xW G A s f H locs) {C ref : String} {T : u_T} {N ci k index a : Nat} {v : Value} {fs : List Value} (hv : f a = some (.inr (ci, fs))) (hlen : k < fs.length) (hin : ∀ w ∈ u_ws C T N, w ∈ lw_tbl ∧ w.onTables = true ∧ w.keepsH = true) (ty0 : Nat → FieldType) (hty : ∀ k, k < N → parseFieldDescriptor (T k).2.2.1 = some (ty0 k)) (hnm : ∀ a, a < N → ∀ b, b < N → a ≠ b → (T a).2.1 ≠ (T b).2.1) (hc : vwCl[ci]? = some (C, T, N)) (hk : k < N) (hl : Cond.fieldLink own index ref (T k).2.1 (T k).2.2.1 ∈ lw_tbl) (hdecl : (T k).1 = ref) (hfin : (T k).2.2.2 = false) (hn : narrow (ty0 k) v = v) (hfit : fits (ty0 k) v = true) (hdg : decode cc pc = .ok (.putfield index, 3))
    (kk : ∀ (f1 : xhp) (H1 : Heap) (locs1 : List Loc), f1 = xup f a (.inr (ci, fs.set k v)) → xW G A s f1 H1 locs1 → W p l e R s m args below meth c H1 locs1 cells slots Q (F0 m (pc + 3) ls rest)) : W p l e R s m args below meth c H locs cells slots Q (F0 m pc ls (v :: .ref a :: rest)) := by
  obtain ⟨hx, hb, hml, hown, hK, -⟩ := hX
  obtain ⟨L, q0, hno, hd, hP, hq, ha⟩ := hW.1.place hv
  have hD : va_D A (va_pl L (xg G.2.1 f)) := xpl_D hno (fun b hb2 => hW.2.1 b ((hd b).mp hb2))
  exact va_put (Ts := u_ws C T N) hx hb (fun w hw => hK.1 w (hin w hw).1 (hin w hw).2.1 (hin w hw).2.2 _) (fun _ h => h) ty0 hty hnm hown hK.2.2.1 hP hD hW.2.2 q0 hq hc k hk (hK.1 _ hl rfl rfl _) (fun x h => by rw [hdecl] at h; exact h) hfin (hty k hk) hn hfit hlen hdg (fun H1 locs1 hP1 hD1 hS1 => kk _ H1 locs1 rfl ⟨xHP.wrote (e := .inr (ci, fs.set k v)) hno hd hv ha hD hq hP1, xA_dom hv hW.2.1, hS1⟩)
theorem x_putN (hX : xX p R s m args meth c G A cc nL own ret d mc ms) (hW : xW G A s f H locs) {C ref host : String} {T : u_T} {N ci k index a : Nat} {v : Value} {fs : List Value} (hv : f a = some (.inr (ci, fs))) (hlen : k < fs.length) (hin : ∀ w ∈ u_ws C T N, w ∈ lw_tbl ∧ w.onTables = true ∧ w.keepsH = true) (ty0 : Nat → FieldType) (hty : ∀ k, k < N → parseFieldDescriptor (T k).2.2.1 = some (ty0 k)) (hnm : ∀ a, a < N → ∀ b, b < N → a ≠ b → (T a).2.1 ≠ (T b).2.1) (hc : vwCl[ci]? = some (C, T, N)) (hk : k < N) (hl : Cond.fieldLinkNest own index ref (T k).2.1 (T k).2.2.1 host ∈ lw_tbl) (hdecl : (T k).1 = ref) (hfin : (T k).2.2.2 = false) (hn : narrow (ty0 k) v = v) (hfit : fits (ty0 k) v = true) (hdg : decode cc pc = .ok (.putfield index, 3))
    (kk : ∀ (f1 : xhp) (H1 : Heap) (locs1 : List Loc), f1 = xup f a (.inr (ci, fs.set k v)) → xW G A s f1 H1 locs1 → W p l e R s m args below meth c H1 locs1 cells slots Q (F0 m (pc + 3) ls rest)) : W p l e R s m args below meth c H locs cells slots Q (F0 m pc ls (v :: .ref a :: rest)) := by
  obtain ⟨hx, hb, hml, hown, hK, -⟩ := hX
  obtain ⟨L, q0, hno, hd, hP, hq, ha⟩ := hW.1.place hv
  have hD : va_D A (va_pl L (xg G.2.1 f)) := xpl_D hno (fun b hb2 => hW.2.1 b ((hd b).mp hb2))
  exact va_putN (Ts := u_ws C T N) hx hb (fun w hw => hK.1 w (hin w hw).1 (hin w hw).2.1 (hin w hw).2.2 _) (fun _ h => h) ty0 hty hnm hown hK.2.2.1 hP hD hW.2.2 q0 hq hc k hk (hK.1 _ hl rfl rfl _) (fun x h => by rw [hdecl] at h; exact h) hfin (hty k hk) hn hfit hlen hdg (fun H1 locs1 hP1 hD1 hS1 => kk _ H1 locs1 rfl ⟨xHP.wrote (e := .inr (ci, fs.set k v)) hno hd hv ha hD hq hP1, xA_dom hv hW.2.1, hS1⟩)
theorem x_putF (hin2 : meth.name = "<init>") (hX : xX p R s m args meth c G A cc nL own ret d mc ms) (hW : xW G A s f H locs) {C ref : String} {T : u_T} {N ci k index a : Nat} {v : Value} {fs : List Value} (hv : f a = some (.inr (ci, fs))) (hlen : k < fs.length) (hin : ∀ w ∈ u_ws C T N, w ∈ lw_tbl ∧ w.onTables = true ∧ w.keepsH = true) (ty0 : Nat → FieldType) (hty : ∀ k, k < N → parseFieldDescriptor (T k).2.2.1 = some (ty0 k)) (hnm : ∀ a, a < N → ∀ b, b < N → a ≠ b → (T a).2.1 ≠ (T b).2.1) (hc : vwCl[ci]? = some (C, T, N)) (hk : k < N) (hl : Cond.fieldLink own index ref (T k).2.1 (T k).2.2.1 ∈ lw_tbl) (hdecl : (T k).1 = ref) (hro : ref = own) (hfin : (T k).2.2.2 = true) (hn : narrow (ty0 k) v = v) (hfit : fits (ty0 k) v = true) (hdg : decode cc pc = .ok (.putfield index, 3))
    (kk : ∀ (f1 : xhp) (H1 : Heap) (locs1 : List Loc), f1 = xup f a (.inr (ci, fs.set k v)) → xW G A s f1 H1 locs1 → W p l e R s m args below meth c H1 locs1 cells slots Q (F0 m (pc + 3) ls rest)) : W p l e R s m args below meth c H locs cells slots Q (F0 m pc ls (v :: .ref a :: rest)) := by
  obtain ⟨hx, hb, hml, hown, hK, -⟩ := hX
  obtain ⟨L, q0, hno, hd, hP, hq, ha⟩ := hW.1.place hv
  have hD : va_D A (va_pl L (xg G.2.1 f)) := xpl_D hno (fun b hb2 => hW.2.1 b ((hd b).mp hb2))
  exact va_putF (Ts := u_ws C T N) hx hb (fun w hw => hK.1 w (hin w hw).1 (hin w hw).2.1 (hin w hw).2.2 _) (fun _ h => h) ty0 hty hnm hown hK.2.2.1 hP hD hW.2.2 q0 hq hc k hk (hK.1 _ hl rfl rfl _) (fun x h => by rw [hdecl] at h; exact h) hfin hin2 (hdecl.trans hro) (hty k hk) hn hfit hlen hdg (fun H1 locs1 hP1 hD1 hS1 => kk _ H1 locs1 rfl ⟨xHP.wrote (e := .inr (ci, fs.set k v)) hno hd hv ha hD hq hP1, xA_dom hv hW.2.1, hS1⟩)
theorem x_iald (hX : xX p R s m args meth c G A cc nL own ret d mc ms) (hW : xW G A s f H locs) {a n : Nat} {g : Nat → Int32} {i : Int32} (hv : xB f a 0 n (xbI g)) (hi : vp_in i n) (hdg : decode cc pc = .ok (.iaload, 1))
    (kk : W p l e R s m args below meth c H locs cells slots Q (F0 m (pc + 1) ls (.int (g i.toNatClampNeg) :: rest))) : W p l e R s m args below meth c H locs cells slots Q (F0 m pc ls (.int i :: .ref a :: rest)) := by
  obtain ⟨hx, hb, hml, hown, hK, -⟩ := hX
  obtain ⟨L, q0, hno, hd, hP, hq, ha⟩ := hW.1.place hv
  exact va_iald hx hb hK.2.2.1 hP q0 0 hq rfl hi hdg kk
theorem x_iast (hX : xX p R s m args meth c G A cc nL own ret d mc ms) (hW : xW G A s f H locs) {a n : Nat} {g : Nat → Int32} {i x : Int32} (hv : xB f a 0 n (xbI g)) (hi : vp_in i n) (hdg : decode cc pc = .ok (.iastore, 1))
    (kk : ∀ (f1 : xhp) (H1 : Heap) (locs1 : List Loc), f1 = xup f a (.inl (0, n, xbI (upd g i.toNatClampNeg x))) → xW G A s f1 H1 locs1 → W p l e R s m args below meth c H1 locs1 cells slots Q (F0 m (pc + 1) ls rest)) : W p l e R s m args below meth c H locs cells slots Q (F0 m pc ls (.int x :: .int i :: .ref a :: rest)) := by
  obtain ⟨hx, hb, hml, hown, hK, -⟩ := hX
  obtain ⟨L, q0, hno, hd, hP, hq, ha⟩ := hW.1.place hv
  have hD : va_D A (va_pl L (xg G.2.1 f)) := xpl_D hno (fun b hb2 => hW.2.1 b ((hd b).mp hb2))
  exact va_iast hx hb hK.2.2.1 hP hD hW.2.2 q0 0 hq rfl hi hdg (fun H1 locs1 hP1 hD1 hS1 => kk _ H1 locs1 rfl ⟨xHP.wrote (e := .inl (0, n, xbI (upd g i.toNatClampNeg x))) hno hd hv ha hD hq hP1, xA_dom hv hW.2.1, hS1⟩)
theorem x_bald (hX : xX p R s m args meth c G A cc nL own ret d mc ms) (hW : xW G A s f H locs) {a n : Nat} {g : Nat → Int32} {i : Int32} (hv : xB f a 3 n (xbI g)) (hi : vp_in i n) (hdg : decode cc pc = .ok (.baload, 1))
    (kk : W p l e R s m args below meth c H locs cells slots Q (F0 m (pc + 1) ls (.int (g i.toNatClampNeg) :: rest))) : W p l e R s m args below meth c H locs cells slots Q (F0 m pc ls (.int i :: .ref a :: rest)) := by
  obtain ⟨hx, hb, hml, hown, hK, -⟩ := hX
  obtain ⟨L, q0, hno, hd, hP, hq, ha⟩ := hW.1.place hv
  exact va_bald hx hb hK.2.2.1 hP q0 3 hq rfl hi hdg kk
theorem x_bast (hX : xX p R s m args meth c G A cc nL own ret d mc ms) (hW : xW G A s f H locs) {a n : Nat} {g : Nat → Int32} {i x : Int32} (hv : xB f a 3 n (xbI g)) (hi : vp_in i n) (hdg : decode cc pc = .ok (.bastore, 1))
    (kk : ∀ (f1 : xhp) (H1 : Heap) (locs1 : List Loc), f1 = xup f a (.inl (3, n, xbI (upd g i.toNatClampNeg (vp_nar .byte x)))) → xW G A s f1 H1 locs1 → W p l e R s m args below meth c H1 locs1 cells slots Q (F0 m (pc + 1) ls rest)) : W p l e R s m args below meth c H locs cells slots Q (F0 m pc ls (.int x :: .int i :: .ref a :: rest)) := by
  obtain ⟨hx, hb, hml, hown, hK, -⟩ := hX
  obtain ⟨L, q0, hno, hd, hP, hq, ha⟩ := hW.1.place hv
  have hD : va_D A (va_pl L (xg G.2.1 f)) := xpl_D hno (fun b hb2 => hW.2.1 b ((hd b).mp hb2))
  exact va_bast hx hb hK.2.2.1 hP hD hW.2.2 q0 3 hq rfl hi hdg (fun H1 locs1 hP1 hD1 hS1 => kk _ H1 locs1 rfl ⟨xHP.wrote (e := .inl (3, n, xbI (upd g i.toNatClampNeg (vp_nar .byte x)))) hno hd hv ha hD hq hP1, xA_dom hv hW.2.1, hS1⟩)
theorem x_lald (hX : xX p R s m args meth c G A cc nL own ret d mc ms) (hW : xW G A s f H locs) {a n : Nat} {g : Nat → Int64} {i : Int32} (hv : xB f a 4 n (xbL g)) (hi : vp_in i n) (hdg : decode cc pc = .ok (.laload, 1))
    (kk : W p l e R s m args below meth c H locs cells slots Q (F0 m (pc + 1) ls (.long (g i.toNatClampNeg) :: rest))) : W p l e R s m args below meth c H locs cells slots Q (F0 m pc ls (.int i :: .ref a :: rest)) := by
  obtain ⟨hx, hb, hml, hown, hK, -⟩ := hX
  obtain ⟨L, q0, hno, hd, hP, hq, ha⟩ := hW.1.place hv
  exact va_lald hx hb hK.2.2.1 hP q0 4 hq rfl hi hdg kk
theorem x_last (hX : xX p R s m args meth c G A cc nL own ret d mc ms) (hW : xW G A s f H locs) {a n : Nat} {g : Nat → Int64} {i : Int32} {x : Int64} (hv : xB f a 4 n (xbL g)) (hi : vp_in i n) (hdg : decode cc pc = .ok (.lastore, 1))
    (kk : ∀ (f1 : xhp) (H1 : Heap) (locs1 : List Loc), f1 = xup f a (.inl (4, n, xbL (vp_updL g i.toNatClampNeg x))) → xW G A s f1 H1 locs1 → W p l e R s m args below meth c H1 locs1 cells slots Q (F0 m (pc + 1) ls rest)) : W p l e R s m args below meth c H locs cells slots Q (F0 m pc ls (.long x :: .int i :: .ref a :: rest)) := by
  obtain ⟨hx, hb, hml, hown, hK, -⟩ := hX
  obtain ⟨L, q0, hno, hd, hP, hq, ha⟩ := hW.1.place hv
  have hD : va_D A (va_pl L (xg G.2.1 f)) := xpl_D hno (fun b hb2 => hW.2.1 b ((hd b).mp hb2))
  exact va_last hx hb hK.2.2.1 hP hD hW.2.2 q0 4 hq rfl hi hdg (fun H1 locs1 hP1 hD1 hS1 => kk _ H1 locs1 rfl ⟨xHP.wrote (e := .inl (4, n, xbL (vp_updL g i.toNatClampNeg x))) hno hd hv ha hD hq hP1, xA_dom hv hW.2.1, hS1⟩)
theorem x_aald (hX : xX p R s m args meth c G A cc nL own ret d mc ms) (hW : xW G A s f H locs) {a t ci n : Nat} {g : Nat → Option Nat} {i : Int32} (hv : xB f a t n (xbR g)) (htc : xTC t ci) (hi : vp_in i n) (hdg : decode cc pc = .ok (.aaload, 1))
    (kk : ∀ r : Option Nat, r = g i.toNatClampNeg → W p l e R s m args below meth c H locs cells slots Q (F0 m (pc + 1) ls (va_rf r :: rest))) : W p l e R s m args below meth c H locs cells slots Q (F0 m pc ls (.int i :: .ref a :: rest)) := by
  obtain ⟨hx, hb, hml, hown, hK, -⟩ := hX
  obtain ⟨L, q0, hno, hd, hP, hq, ha⟩ := hW.1.place hv
  rcases htc with ⟨rfl, rfl⟩ | ⟨rfl, rfl⟩
  · exact va_aldq hx hb hK.2.2.1 hP q0 1 hq rfl hi hdg (kk _ rfl)
  · exact va_aldq hx hb hK.2.2.1 hP q0 2 hq rfl hi hdg (kk _ rfl)
theorem x_aast (hX : xX p R s m args meth c G A cc nL own ret d mc ms) (hW : xW G A s f H locs) {a t ci n v : Nat} {g : Nat → Option Nat} {i : Int32} (hv : xB f a t n (xbR g)) (htc : xTC t ci) (ho : xO f v ci) (hi : vp_in i n) (hdg : decode cc pc = .ok (.aastore, 1))
    (kk : ∀ (f1 : xhp) (H1 : Heap) (locs1 : List Loc), f1 = xup f a (.inl (t, n, xbR (va_up g i.toNatClampNeg (some v)))) → xW G A s f1 H1 locs1 → W p l e R s m args below meth c H1 locs1 cells slots Q (F0 m (pc + 1) ls rest)) : W p l e R s m args below meth c H locs cells slots Q (F0 m pc ls (.ref v :: .int i :: .ref a :: rest)) := by
  obtain ⟨hx, hb, hml, hown, hK, -⟩ := hX
  obtain ⟨fs, ho⟩ := ho
  obtain ⟨L, q0, hno, hd, hP, hq, ha⟩ := hW.1.place hv
  obtain ⟨q1, hq1⟩ := va_pl_get (X := []) (f := xg G.2.1 f) ((hd v).mpr (by rw [ho]; rfl))
  have e1 : xg G.2.1 f v = .inr (ci, fs) := by simp [xg, ho, xtr]
  rw [e1] at hq1
  have hD : va_D A (va_pl L (xg G.2.1 f)) := xpl_D hno (fun b hb2 => hW.2.1 b ((hd b).mp hb2))
  rcases htc with ⟨rfl, rfl⟩ | ⟨rfl, rfl⟩
  · exact va_astq hx hb hK.2.2.1 hP hD hW.2.2 q0 1 q1 2 (r := ("MailParts$Row", T_Ro, 2)) hq rfl hq1 rfl hi hdg (fun H1 locs1 hP1 hD1 hS1 => kk _ H1 locs1 rfl ⟨xHP.wrote (e := .inl (1, n, xbR (va_up g i.toNatClampNeg (some v)))) hno hd hv ha hD hq hP1, xA_dom hv hW.2.1, hS1⟩)
  · exact va_astq hx hb hK.2.2.1 hP hD hW.2.2 q0 2 q1 0 (r := ("MailParts$Entity", T_En, 17)) hq rfl hq1 rfl hi hdg (fun H1 locs1 hP1 hD1 hS1 => kk _ H1 locs1 rfl ⟨xHP.wrote (e := .inl (2, n, xbR (va_up g i.toNatClampNeg (some v)))) hno hd hv ha hD hq hP1, xA_dom hv hW.2.1, hS1⟩)
theorem x_alen (hX : xX p R s m args meth c G A cc nL own ret d mc ms) (hW : xW G A s f H locs) {a t n : Nat} {b : xbd} (hv : xB f a t n b) (ht : t < xnT) (hdg : decode cc pc = .ok (.arraylength, 1))
    (kk : W p l e R s m args below meth c H locs cells slots Q (F0 m (pc + 1) ls (.int (nI n) :: rest))) : W p l e R s m args below meth c H locs cells slots Q (F0 m pc ls (.ref a :: rest)) := by
  obtain ⟨hx, hb, hml, hown, hK, -⟩ := hX
  obtain ⟨L, q0, hno, hd, hP, hq, ha⟩ := hW.1.place hv
  obtain ⟨ty, hty⟩ := xTY_at G.2.1 ht
  exact va_alen hx hb hK.2.2.1 hP q0 t hq hty rfl hdg kk
end XL
end
section
/-- what a callee's name and code must be -/
def xY (y : MethodName) (n : Nat) : Prop := (y.cls ≠ "java/lang/invoke/MethodHandle" ∧ y.cls ≠ "java/lang/invoke/VarHandle") ∧ (parseMethodDescriptor y.desc).map (fun d => d.parameters.length) = some n
theorem xY_n {y : MethodName} {n : Nat} (h : xY y n) : ∀ sig, parseMethodDescriptor y.desc = some sig → n = sig.parameters.length := fun sig hs => by
  have h2 := h.2
  rw [hs] at h2
  exact (Option.some.inj h2).symm
section XE
variable {p : Program} {l : Launch} {e : Env} {R : Room} {s : State} {m : MethodId} {args : Array Value} {below : List Frame} {meth : Method} {c : Code} {H : Heap} {locs : List Loc} {cells slots : Nat} {Q : State → Prop}
variable {cc : ByteArray} {pc : Nat} {ls : Array Slot} {rest : List Value} {G : xG} {A : Nat → Prop} {f : xhp} {nL d mc ms : Nat} {own : String} {ret : Option FieldType}
-- the ends
theorem x_iret {f0 : xhp} {sz : Nat} (hX : xX p R s m args meth c G (xA f0 sz) cc nL own (some .int) d mc ms) (hW : xW G (xA f0 sz) s f H locs) {post : Int32 → xhp → Prop} {v : Int32} (h : post v f) (hdg : decode cc pc = .ok (.ireturn, 1)) : W p l e R s m args below meth c H locs cells slots (MQ below (va_Qi post (xAt G f0 sz) (xA f0 sz)) args s cells slots (xA f0 sz)) (F0 m pc ls [.int v]) := by
  obtain ⟨hx, hb, hml, hown, hK, hr, hlk, -⟩ := hX
  exact W.iret (v := v) hx hb hr (fun t ht _ => ⟨⟨v, f, rfl, h, by rw [ht]; exact hW.1, hW.2.1⟩, hW.2.2.F ht⟩) hW.2.2.2.2 hdg hlk
theorem x_lret {f0 : xhp} {sz : Nat} (hX : xX p R s m args meth c G (xA f0 sz) cc nL own (some .long) d mc ms) (hW : xW G (xA f0 sz) s f H locs) {post : Int64 → xhp → Prop} {v : Int64} (h : post v f) (hdg : decode cc pc = .ok (.lreturn, 1)) : W p l e R s m args below meth c H locs cells slots (MQ below (va_Ql post (xAt G f0 sz) (xA f0 sz)) args s cells slots (xA f0 sz)) (F0 m pc ls [.long v]) := by
  obtain ⟨hx, hb, hml, hown, hK, hr, hlk, -⟩ := hX
  exact W.lret (v := v) hx hb hr (fun t ht _ => ⟨⟨v, f, rfl, h, by rw [ht]; exact hW.1, hW.2.1⟩, hW.2.2.F ht⟩) hW.2.2.2.2 hdg hlk
theorem x_zret {f0 : xhp} {sz : Nat} (hX : xX p R s m args meth c G (xA f0 sz) cc nL own (some .boolean) d mc ms) (hW : xW G (xA f0 sz) s f H locs) {post : Int32 → xhp → Prop} {v : Int32} (hz : xz v) (h : post v f) (hdg : decode cc pc = .ok (.ireturn, 1)) : W p l e R s m args below meth c H locs cells slots (MQ below (va_Qi post (xAt G f0 sz) (xA f0 sz)) args s cells slots (xA f0 sz)) (F0 m pc ls [.int v]) := by
  obtain ⟨hx, hb, hml, hown, hK, hr, hlk, -⟩ := hX
  exact W.zret (v := v) (ty := .boolean) hx hb hr (xz_nar hz) (fun t ht _ => ⟨⟨v, f, rfl, h, by rw [ht]; exact hW.1, hW.2.1⟩, hW.2.2.F ht⟩) hW.2.2.2.2 hdg hlk
theorem x_vret {f0 : xhp} {sz : Nat} (hX : xX p R s m args meth c G (xA f0 sz) cc nL own none d mc ms) (hW : xW G (xA f0 sz) s f H locs) {post : xhp → Prop} (h : post f) (hdg : decode cc pc = .ok (.return_, 1)) : W p l e R s m args below meth c H locs cells slots (MQ below (va_Qv post (xAt G f0 sz) (xA f0 sz)) args s cells slots (xA f0 sz)) (F0 m pc ls []) := by
  obtain ⟨hx, hb, hml, hown, hK, hr, hlk, -⟩ := hX
  exact W.vret hx hb hr (fun t ht _ => ⟨⟨f, rfl, h, by rw [ht]; exact hW.1, hW.2.1⟩, hW.2.2.F ht⟩) hW.2.2.2.2 hdg hlk
theorem x_aret {f0 : xhp} {sz : Nat} {C : String} (hX : xX p R s m args meth c G (xA f0 sz) cc nL own (some (.object C)) d mc ms) (hW : xW G (xA f0 sz) s f H locs) {post : Option Nat → xhp → Prop} {r : Option Nat} (h : post r f) (hdg : decode cc pc = .ok (.areturn, 1)) : W p l e R s m args below meth c H locs cells slots (MQ below (va_Qq post (xAt G f0 sz) (xA f0 sz)) args s cells slots (xA f0 sz)) (F0 m pc ls [va_rf r]) := by
  obtain ⟨hx, hb, hml, hown, hK, hr, hlk, -⟩ := hX
  exact W.aret (v := va_rf r) hx hb hr (Or.inl ⟨C, rfl⟩) (by cases r with | none => exact Or.inl rfl | some a => exact Or.inr ⟨a, rfl⟩) (fun t ht _ => ⟨⟨r, f, rfl, h, by rw [ht]; exact hW.1, hW.2.1⟩, hW.2.2.F ht⟩) hW.2.2.2.2 hdg hlk
-- calls
theorem xA_sub (hX : xX p R s m args meth c G A cc nL own ret d mc ms) (hW : xW G A s f H locs) : ∀ q, xA f H.size q → A q := by
  intro q hq
  obtain ⟨-, -, -, -, -, -, -, hA, -⟩ := hX
  rcases hq with h | h
  · exact hW.2.1 q h
  · exact hA q (Nat.le_trans hW.2.2.1 h)
theorem x_pre (hX : xX p R s m args meth c G A cc nL own ret d mc ms) (hW : xW G A s f H locs) (av : List Value) : ∀ U : State, U.heap = H → s.WarmedH U.vm → va_Pc av (xPre G f H.size) av.toArray U := by
  intro U hU hw
  have hsub := xA_sub hX hW
  obtain ⟨hx, hb, hml, hown, hK, -⟩ := hX
  refine ⟨rfl, by rw [hU], by rw [hU]; exact hW.1, hK.1.warm hw, hK.2.1.warm hw, va_K.moved hw.alike hK.2.2.1, ?_, fun q hq => vk_R.warm hw (hK.2.2.2.2.1 q hq), ?_, ?_⟩ <;> rw [hU]
  · exact vk_S.moved hw.alike ((hK.2.2.2.1.kept hW.2.2.2.1).narrow hsub)
  · exact va_Z.moved hw.alike ((hK.2.2.2.2.2.1.kept hW.2.2.2.1).narrow hsub)
  · exact va_Zq.moved hw.alike ((hK.2.2.2.2.2.2.kept hW.2.2.2.1).narrow hsub)
theorem x_recv (hX : xX p R s m args meth c G A cc nL own ret d mc ms) (hW : xW G A s f H locs) {b ci : Nat} {q : vw_C} (ho : xO f b ci) (hc : vwCl[ci]? = some q) : ∃ cell : Cell, H[b]? = some cell ∧ cell.vm.isStatics = false ∧ s.vm.findClass q.1 = some cell.cls := by
  obtain ⟨fs, h1⟩ := ho
  obtain ⟨hx, hb, hml, hown, hK, -⟩ := hX
  obtain ⟨L, q0, hno, hd, hP, hq, ha⟩ := hW.1.place h1
  exact va_recv hK.2.2.1 hP hc hq
variable {mc' ms' : Nat}
theorem x_calli (hX : xX p R s m args meth c G A cc nL own ret d mc ms) (hW : xW G A s f H locs) {post : Int32 → xhp → Prop} {st0 : List Value} {a : Array Value} (hr : va_Run p l e R s m args below meth c H locs cells slots mc' ms' (F0 m pc ls st0) rest (va_Qi post (xAt G f H.size) (xA f H.size) a) (xA f H.size))
    (kk : ∀ (r : Int32) (f1 : xhp) (H1 : Heap) (locs1 : List Loc), post r f1 → xW G A s f1 H1 locs1 → W p l e R s m args below meth c H1 locs1 (cells + mc') (slots + ms') Q (F0 m (pc + 3) ls (.int r :: rest))) : W p l e R s m args below meth c H locs cells slots Q (F0 m pc ls st0) := by
  have hsub := xA_sub hX hW
  exact va_calli hr hW.2.2 (fun q _ h => hsub q h) hsub (fun r u t H1 locs1 ht hvm hp hB hz hk hS => kk r u H1 locs1 hp ⟨by rw [← ht]; exact hB.1, fun a h => hsub a (hB.2 a h), hS⟩)
theorem x_calll (hX : xX p R s m args meth c G A cc nL own ret d mc ms) (hW : xW G A s f H locs) {post : Int64 → xhp → Prop} {st0 : List Value} {a : Array Value} (hr : va_Run p l e R s m args below meth c H locs cells slots mc' ms' (F0 m pc ls st0) rest (va_Ql post (xAt G f H.size) (xA f H.size) a) (xA f H.size))
    (kk : ∀ (r : Int64) (f1 : xhp) (H1 : Heap) (locs1 : List Loc), post r f1 → xW G A s f1 H1 locs1 → W p l e R s m args below meth c H1 locs1 (cells + mc') (slots + ms') Q (F0 m (pc + 3) ls (.long r :: rest))) : W p l e R s m args below meth c H locs cells slots Q (F0 m pc ls st0) := by
  have hsub := xA_sub hX hW
  exact va_calll hr hW.2.2 (fun q _ h => hsub q h) hsub (fun r u t H1 locs1 ht hvm hp hB hz hk hS => kk r u H1 locs1 hp ⟨by rw [← ht]; exact hB.1, fun a h => hsub a (hB.2 a h), hS⟩)
theorem x_callv (hX : xX p R s m args meth c G A cc nL own ret d mc ms) (hW : xW G A s f H locs) {post : xhp → Prop} {st0 : List Value} {a : Array Value} (hr : va_Run p l e R s m args below meth c H locs cells slots mc' ms' (F0 m pc ls st0) rest (va_Qv post (xAt G f H.size) (xA f H.size) a) (xA f H.size))
    (kk : ∀ (f1 : xhp) (H1 : Heap) (locs1 : List Loc), post f1 → xW G A s f1 H1 locs1 → W p l e R s m args below meth c H1 locs1 (cells + mc') (slots + ms') Q (F0 m (pc + 3) ls rest)) : W p l e R s m args below meth c H locs cells slots Q (F0 m pc ls st0) := by
  have hsub := xA_sub hX hW
  exact va_callv hr hW.2.2 (fun q _ h => hsub q h) hsub (fun u t H1 locs1 ht hvm hp hB hz hk hS => kk u H1 locs1 hp ⟨by rw [← ht]; exact hB.1, fun a h => hsub a (hB.2 a h), hS⟩)
theorem x_callq (hX : xX p R s m args meth c G A cc nL own ret d mc ms) (hW : xW G A s f H locs) {post : Option Nat → xhp → Prop} {st0 : List Value} {a : Array Value} (hr : va_Run p l e R s m args below meth c H locs cells slots mc' ms' (F0 m pc ls st0) rest (va_Qq post (xAt G f H.size) (xA f H.size) a) (xA f H.size))
    (kk : ∀ (r : Option Nat) (f1 : xhp) (H1 : Heap) (locs1 : List Loc), post r f1 → xW G A s f1 H1 locs1 → W p l e R s m args below meth c H1 locs1 (cells + mc') (slots + ms') Q (F0 m (pc + 3) ls (va_rf r :: rest))) : W p l e R s m args below meth c H locs cells slots Q (F0 m pc ls st0) := by
  have hsub := xA_sub hX hW
  exact va_callq hr hW.2.2 (fun q _ h => hsub q h) hsub (fun r u t H1 locs1 ht hvm hp hB hz hk hS => kk r u H1 locs1 hp ⟨by rw [← ht]; exact hB.1, fun a h => hsub a (hB.2 a h), hS⟩)
variable {y : MethodName} {bytes : ByteArray} {maxL d' index n : Nat} {ret' : Option FieldType} {As st0 : List Value} {Qc : Array Value → State → Outcome → State → Prop}
theorem x_ws (hK : xWd s) (hcode : Cond.code y bytes maxL ret' ∈ lw_tbl) : ∀ w ∈ [Cond.code y bytes maxL ret'], ∀ (a' : Array Value) (U : State), s.WarmedH U.vm → w.before a' U = true := by
  intro w hw a' U hWm
  rw [List.mem_singleton] at hw
  subst hw
  exact (hK.warm hWm) _ hcode rfl rfl a'
theorem x_runV {C : String} {T : u_T} {N b ci : Nat} (hX : xX p R s m args meth c G A cc nL own ret d mc ms) (hW : xW G A s f H locs) (hM : Met l y [.code y bytes maxL ret'] (xrm d' mc' ms') (va_Pc (.ref b :: As) (xPre G f H.size)) Qc mc' ms' (xA f H.size)) (ho : xO f b ci) (hc : vwCl[ci]? = some (C, T, N)) (hl : Cond.methodLink own index y ∈ lw_tbl) (hi : Cond.instanceMethod y ∈ lw_tbl) (hsel : Cond.selects C y y ∈ lw_tbl) (hini : Cond.initialized y.cls ∈ lw_tbl) (hcode : Cond.code y bytes maxL ret' ∈ lw_tbl) (hy : xY y n) (hdd : d' + 1 ≤ d) (hmx : maxL ≤ 21) (hn : As.length = n) (hls : ls.size = nL) (hst : st0 = As.reverse ++ .ref b :: rest) (h8 : (rest.map fun v => v.category).sum ≤ 8) (hdg : decode cc pc = .ok (.invokevirtual index, 3)) (hcs : cells + mc' ≤ R.cells ∧ slots + ms' ≤ R.slots) :
    va_Run p l e R s m args below meth c H locs cells slots mc' ms' (F0 m pc ls st0) rest (Qc (Value.ref b :: As).toArray) (xA f H.size) := by
  have hpre := x_pre hX hW (.ref b :: As)
  have hrecv := x_recv hX hW ho hc
  obtain ⟨hx, hb, hml, hown, hK, hr, hlk, hA, hR1, hR2, -⟩ := hX
  exact va_runV (Ts := []) ⟨hx, hb, hml, hown, fun w h => by cases h⟩ hM ⟨⟨rfl, rfl, by show d' + 1 ≤ R.frames; omega, by show 8 + (maxL + 11) + 40 * d' ≤ R.locals; omega, x_ws hK.1 hcode, List.mem_cons_self, hK.1 _ hcode rfl rfl _, hK.1 _ hini rfl rfl _, hy.1, xY_n hy, hK.1 _ hl rfl rfl _⟩, hK.1 _ hi rfl rfl _, hK.1 _ hsel rfl rfl _⟩ ⟨xPre.blind _ _ _ _, hrecv, hpre⟩ rfl hn hls hst (lv_room h8) hdg hcs
theorem x_runS (hX : xX p R s m args meth c G A cc nL own ret d mc ms) (hW : xW G A s f H locs) (hM : Met l y [.code y bytes maxL ret'] (xrm d' mc' ms') (va_Pc As (xPre G f H.size)) Qc mc' ms' (xA f H.size)) (hl : Cond.methodLink own index y ∈ lw_tbl) (hi : Cond.static y ∈ lw_tbl) (hini : Cond.initialized y.cls ∈ lw_tbl) (hcode : Cond.code y bytes maxL ret' ∈ lw_tbl) (hy : xY y n) (hdd : d' + 1 ≤ d) (hmx : maxL ≤ 21) (hn : As.length = n) (hls : ls.size = nL) (hst : st0 = As.reverse ++ rest) (h8 : (rest.map fun v => v.category).sum ≤ 8) (hdg : decode cc pc = .ok (.invokestatic index, 3)) (hcs : cells + mc' ≤ R.cells ∧ slots + ms' ≤ R.slots) :
    va_Run p l e R s m args below meth c H locs cells slots mc' ms' (F0 m pc ls st0) rest (Qc As.toArray) (xA f H.size) := by
  have hpre := x_pre hX hW As
  obtain ⟨hx, hb, hml, hown, hK, hr, hlk, hA, hR1, hR2, -⟩ := hX
  exact va_runS (Ts := []) ⟨hx, hb, hml, hown, fun w h => by cases h⟩ hM ⟨⟨rfl, rfl, by show d' + 1 ≤ R.frames; omega, by show 8 + (maxL + 11) + 40 * d' ≤ R.locals; omega, x_ws hK.1 hcode, List.mem_cons_self, hK.1 _ hcode rfl rfl _, hK.1 _ hini rfl rfl _, hy.1, xY_n hy, hK.1 _ hl rfl rfl _⟩, hK.1 _ hi rfl rfl _⟩ ⟨xPre.blind _ _ _ _, hpre⟩ rfl hn hls hst (lv_room h8) hdg hcs
theorem x_runSN {host : String} (hX : xX p R s m args meth c G A cc nL own ret d mc ms) (hW : xW G A s f H locs) (hM : Met l y [.code y bytes maxL ret'] (xrm d' mc' ms') (va_Pc As (xPre G f H.size)) Qc mc' ms' (xA f H.size)) (hl : Cond.methodLinkNest own index y host ∈ lw_tbl) (hi : Cond.static y ∈ lw_tbl) (hini : Cond.initialized y.cls ∈ lw_tbl) (hcode : Cond.code y bytes maxL ret' ∈ lw_tbl) (hy : xY y n) (hdd : d' + 1 ≤ d) (hmx : maxL ≤ 21) (hn : As.length = n) (hls : ls.size = nL) (hst : st0 = As.reverse ++ rest) (h8 : (rest.map fun v => v.category).sum ≤ 8) (hdg : decode cc pc = .ok (.invokestatic index, 3)) (hcs : cells + mc' ≤ R.cells ∧ slots + ms' ≤ R.slots) :
    va_Run p l e R s m args below meth c H locs cells slots mc' ms' (F0 m pc ls st0) rest (Qc As.toArray) (xA f H.size) := by
  have hpre := x_pre hX hW As
  obtain ⟨hx, hb, hml, hown, hK, hr, hlk, hA, hR1, hR2, -⟩ := hX
  exact va_runSN (Ts := []) ⟨hx, hb, hml, hown, fun w h => by cases h⟩ hM ⟨⟨⟨rfl, rfl, by show d' + 1 ≤ R.frames; omega, by show 8 + (maxL + 11) + 40 * d' ≤ R.locals; omega, x_ws hK.1 hcode, List.mem_cons_self⟩, hK.1 _ hcode rfl rfl _, hK.1 _ hini rfl rfl _, hy.1, xY_n hy, hK.1 _ hl rfl rfl _⟩, hK.1 _ hi rfl rfl _, trivial⟩ ⟨xPre.blind _ _ _ _, hpre⟩ rfl hn hls hst (lv_room h8) hdg hcs
theorem x_runI {b : Nat} (hX : xX p R s m args meth c G A cc nL own ret d mc ms) (hW : xW G A s f H locs) (hM : Met l y [.code y bytes maxL none] (xrm d' mc' ms') (va_Pc (.ref b :: As) (xPre G f H.size)) Qc mc' ms' (xA f H.size)) (hl : Cond.methodLink own index y ∈ lw_tbl) (hi : Cond.instanceMethod y ∈ lw_tbl) (hini : Cond.initialized y.cls ∈ lw_tbl) (hcode : Cond.code y bytes maxL none ∈ lw_tbl) (hy1 : y.name = "<init>") (hy : xY y n) (hdd : d' + 1 ≤ d) (hmx : maxL ≤ 21) (hn : As.length = n) (hls : ls.size = nL) (hst : st0 = As.reverse ++ .ref b :: rest) (h8 : (rest.map fun v => v.category).sum ≤ 8) (hdg : decode cc pc = .ok (.invokespecial index, 3)) (hcs : cells + mc' ≤ R.cells ∧ slots + ms' ≤ R.slots) :
    va_Run p l e R s m args below meth c H locs cells slots mc' ms' (F0 m pc ls st0) rest (Qc (Value.ref b :: As).toArray) (xA f H.size) := by
  have hpre := x_pre hX hW (.ref b :: As)
  obtain ⟨hx, hb, hml, hown, hK, hr, hlk, hA, hR1, hR2, -⟩ := hX
  exact va_runI (Ts := []) ⟨hx, hb, hml, hown, fun w h => by cases h⟩ hM ⟨⟨rfl, rfl, by show d' + 1 ≤ R.frames; omega, by show 8 + (maxL + 11) + 40 * d' ≤ R.locals; omega, x_ws hK.1 hcode, List.mem_cons_self, hK.1 _ hcode rfl rfl _, hK.1 _ hini rfl rfl _, hy.1, xY_n hy, hK.1 _ hl rfl rfl _⟩, hy1, hK.1 _ hi rfl rfl _⟩ ⟨xPre.blind _ _ _ _, hpre⟩ rfl hn hls hst (lv_room h8) hdg hcs
theorem x_runIN {b : Nat} {host : String} (hX : xX p R s m args meth c G A cc nL own ret d mc ms) (hW : xW G A s f H locs) (hM : Met l y [.code y bytes maxL none] (xrm d' mc' ms') (va_Pc (.ref b :: As) (xPre G f H.size)) Qc mc' ms' (xA f H.size)) (hl : Cond.methodLinkNest own index y host ∈ lw_tbl) (hi : Cond.instanceMethod y ∈ lw_tbl) (hini : Cond.initialized y.cls ∈ lw_tbl) (hcode : Cond.code y bytes maxL none ∈ lw_tbl) (hy1 : y.name = "<init>") (hy : xY y n) (hdd : d' + 1 ≤ d) (hmx : maxL ≤ 21) (hn : As.length = n) (hls : ls.size = nL) (hst : st0 = As.reverse ++ .ref b :: rest) (h8 : (rest.map fun v => v.category).sum ≤ 8) (hdg : decode cc pc = .ok (.invokespecial index, 3)) (hcs : cells + mc' ≤ R.cells ∧ slots + ms' ≤ R.slots) :
    va_Run p l e R s m args below meth c H locs cells slots mc' ms' (F0 m pc ls st0) rest (Qc (Value.ref b :: As).toArray) (xA f H.size) := by
  have hpre := x_pre hX hW (.ref b :: As)
  obtain ⟨hx, hb, hml, hown, hK, hr, hlk, hA, hR1, hR2, -⟩ := hX
  exact va_runIN (Ts := []) ⟨hx, hb, hml, hown, fun w h => by cases h⟩ hM ⟨⟨⟨rfl, rfl, by show d' + 1 ≤ R.frames; omega, by show 8 + (maxL + 11) + 40 * d' ≤ R.locals; omega, x_ws hK.1 hcode, List.mem_cons_self⟩, hK.1 _ hcode rfl rfl _, hK.1 _ hini rfl rfl _, hy.1, xY_n hy, hK.1 _ hl rfl rfl _⟩, hy1, hK.1 _ hi rfl rfl _⟩ ⟨xPre.blind _ _ _ _, hpre⟩ rfl hn hls hst (lv_room h8) hdg hcs
theorem x_max (hX : xX p R s m args meth c G A cc nL own ret d mc ms) {x y : Int32} (hd : 1 ≤ d) (hl : Cond.methodLink own index ⟨"java/lang/Math", "max", "(II)I"⟩ ∈ lw_tbl) (hls : ls.size = nL) (h8 : (rest.map fun v => v.category).sum ≤ 8) (hcs : cells ≤ R.cells ∧ slots ≤ R.slots) (hdg : decode cc pc = .ok (.invokestatic index, 3))
    (kk : W p l e R s m args below meth c H locs cells slots Q (F0 m (pc + 3) ls (.int (if x < y then y else x) :: rest))) : W p l e R s m args below meth c H locs cells slots Q (F0 m pc ls (.int y :: .int x :: rest)) := by
  obtain ⟨hx, hb, hml, hown, hK, hr, hlk, hA, hR1, hR2, -⟩ := hX
  exact va_mmax hx hb (by rw [hml, hls]) hown (hK.1 _ hl rfl rfl _) (hK.1 _ kx_max_static rfl rfl _) (hK.1 _ kx_max_init rfl rfl _) (hK.1 _ kx_max_code rfl rfl _) (by omega) (by omega) hcs.1 hcs.2 hdg kk
theorem x_min (hX : xX p R s m args meth c G A cc nL own ret d mc ms) {x y : Int32} (hd : 1 ≤ d) (hl : Cond.methodLink own index ⟨"java/lang/Math", "min", "(II)I"⟩ ∈ lw_tbl) (hls : ls.size = nL) (h8 : (rest.map fun v => v.category).sum ≤ 8) (hcs : cells ≤ R.cells ∧ slots ≤ R.slots) (hdg : decode cc pc = .ok (.invokestatic index, 3))
    (kk : W p l e R s m args below meth c H locs cells slots Q (F0 m (pc + 3) ls (.int (if y < x then y else x) :: rest))) : W p l e R s m args below meth c H locs cells slots Q (F0 m pc ls (.int y :: .int x :: rest)) := by
  obtain ⟨hx, hb, hml, hown, hK, hr, hlk, hA, hR1, hR2, -⟩ := hX
  exact va_mmin hx hb (by rw [hml, hls]) hown (hK.1 _ hl rfl rfl _) (hK.1 _ kx_min_static rfl rfl _) (hK.1 _ kx_max_init rfl rfl _) (hK.1 _ kx_min_code rfl rfl _) (by omega) (by omega) hcs.1 hcs.2 hdg kk
theorem x_ldcS (hX : xX p R s m args meth c G A cc nL own ret d mc ms) {tx : String} {i : Nat} (hq : (own, index, tx, i) ∈ xstr) (hdg : decode cc pc = .ok (.ldc index, 2))
    (kk : W p l e R s m args below meth c H locs cells slots Q (F0 m (pc + 2) ls (.ref (G.2.2.1 i) :: rest))) : W p l e R s m args below meth c H locs cells slots Q (F0 m pc ls rest) := by
  obtain ⟨hx, hb, hml, hown, hK, -⟩ := hX
  exact va_ldcS hx hb hown (hK.2.2.2.2.1 _ hq) hdg kk
theorem x_objInit (hX : xX p R s m args meth c G A cc nL own ret d mc ms) {a : Nat} (hd : 1 ≤ d) (hl : Cond.methodLink own index objectInit ∈ lw_tbl) (hls : ls.size = nL) (h8 : (rest.map fun v => v.category).sum ≤ 8) (hdg : decode cc pc = .ok (.invokespecial index, 3))
    (kk : W p l e R s m args below meth c H locs cells slots Q (F0 m (pc + 3) ls rest)) : W p l e R s m args below meth c H locs cells slots Q (F0 m pc ls (.ref a :: rest)) := by
  obtain ⟨hx, hb, hml, hown, hK, hr, hlk, hA, hR1, hR2, -⟩ := hX
  exact W.objInit hx hb hown (hK.1 _ hl rfl rfl _) (hK.1 _ kx_obj_inst rfl rfl _) (hK.1 _ kx_obj_code rfl rfl _) rfl (by rw [hml]; exact hls) rfl hdg (by omega) (by show 2 * 0 + (rest.map fun v => v.category).sum + 12 ≤ R.locals; omega) kk
end XE
section XN
variable {p : Program} {l : Launch} {e : Env} {R : Room} {s : State} {m : MethodId} {args : Array Value} {below : List Frame} {meth : Method} {c : Code} {H : Heap} {locs : List Loc} {cells slots : Nat} {Q : State → Prop}
variable {cc : ByteArray} {pc : Nat} {ls : Array Slot} {rest : List Value} {G : xG} {A : Nat → Prop} {f : xhp} {nL d mc ms : Nat} {own : String} {ret : Option FieldType} {index : Nat}
/-- the pool with a cell more -/
theorem xHP.more {H1 : Heap} {L : List Nat} {q : Nat} {x : xE} (hn : L.Nodup) (hd : ∀ a, a ∈ L ↔ (f a).isSome = true) (hP : va_P G.1 vwCl (va_pl L (xg G.2.1 f) ++ [(q, xtr G.2.1 x)]) H1) (hD : va_D A (va_pl L (xg G.2.1 f) ++ [(q, xtr G.2.1 x)])) : f q = none ∧ xHP G (xup f q x) H1 ∧ A q := by
  have hq : q ∉ L := by
    intro hm
    obtain ⟨k, hk⟩ := va_pl_get (X := []) (f := xg G.2.1 f) hm
    simp only [List.nil_append] at hk
    have hlt := (List.getElem?_eq_some_iff.mp hk).1
    have h1 : (va_pl L (xg G.2.1 f) ++ [(q, xtr G.2.1 x)])[k]? = some (q, xg G.2.1 f q) := by rw [List.getElem?_append_left hlt]; exact hk
    have h2 : (va_pl L (xg G.2.1 f) ++ [(q, xtr G.2.1 x)])[(va_pl L (xg G.2.1 f)).length]? = some (q, xtr G.2.1 x) := by simp
    have := hD.1 _ _ _ _ h1 h2 rfl
    omega
  have hnone : f q = none := by
    cases hf : f q with
    | none => rfl
    | some z => exact absurd ((hd q).mpr (by rw [hf]; rfl)) hq
  refine ⟨hnone, ⟨L ++ [q], ?_, fun a => ?_, ?_⟩, ?_⟩
  · rw [List.nodup_append]
    exact ⟨hn, by simp, fun a ha b hb e => by rw [List.mem_singleton] at hb; subst hb; subst e; exact hq ha⟩
  · by_cases ha : a = q
    · subst ha; simp [xup]
    · rw [xup_ne _ _ ha]; simp [ha, hd a]
  · rw [xg_up, ← va_pl_push hq]; exact hP
  · exact hD.2 (va_pl L (xg G.2.1 f)).length (q, xtr G.2.1 x) (by simp)
theorem xA_more {q : Nat} {x : xE} (hq : A q) (h : ∀ a, (f a).isSome = true → A a) : ∀ a, (xup f q x a).isSome = true → A a := by
  intro a ha
  by_cases e : a = q
  · subst e; exact hq
  · rw [xup_ne _ _ e] at ha; exact h a ha
theorem x_new (hX : xX p R s m args meth c G A cc nL own ret d mc ms) (hW : xW G A s f H locs) {C : String} {T : u_T} {N ci : Nat} (hin : ∀ w ∈ u_ws C T N, w ∈ lw_tbl ∧ w.onTables = true ∧ w.keepsH = true) (ty : Nat → FieldType) (hty : ∀ k, k < N → parseFieldDescriptor (T k).2.2.1 = some (ty k)) (hc : vwCl[ci]? = some (C, T, N)) (hl : Cond.classLink own index C ∈ lw_tbl) (hi : Cond.instantiable C N ∈ lw_tbl) (hini : Cond.initialized C ∈ lw_tbl) {fs : List Value} (hfs : ∀ j, j < N → defaultValue (ty j) = vp_V fs j) (hc9 : cells + 1 ≤ mc) (hs9 : slots + N ≤ ms) (hdg : decode cc pc = .ok (.new index, 3))
    (kk : ∀ (q : Nat) (f1 : xhp) (H1 : Heap), f q = none → f1 = xup f q (.inr (ci, fs)) → xW G A s f1 H1 locs → W p l e R s m args below meth c H1 locs (cells + 1) (slots + N) Q (F0 m (pc + 3) ls (.ref q :: rest))) : W p l e R s m args below meth c H locs cells slots Q (F0 m pc ls rest) := by
  obtain ⟨hx, hb, hml, hown, hK, hr, hlk, hA, hR1, hR2, hmc, hms⟩ := hX
  obtain ⟨⟨L, hno, hd, hP⟩, hdm, hS⟩ := hW
  have hD : va_D A (va_pl L (xg G.2.1 f)) := xpl_D hno (fun b hb2 => hdm b ((hd b).mp hb2))
  refine va_new (Ts := u_ws C T N) hx hb (fun w hw => hK.1 w (hin w hw).1 (hin w hw).2.1 (hin w hw).2.2 _) (fun _ h => h) ty hty hown (hK.1 _ hl rfl rfl _) (hK.1 _ hi rfl rfl _) (hK.1 _ hini rfl rfl _) hK.2.2.1 hP hD hS hA hc hfs (by omega) (by omega) hdg (fun q H1 hP1 hD1 hS1 => ?_)
  obtain ⟨h1, h2, h3⟩ := xHP.more (x := .inr (ci, fs)) hno hd hP1 hD1
  exact kk q _ H1 h1 rfl ⟨h2, xA_more h3 hdm, hS1⟩
theorem x_newa (t : Nat) (hX : xX p R s m args meth c G A cc nL own ret d mc ms) (hW : xW G A s f H locs) {at0 : ArrayType} {ty : FieldType} (hty : newarray.typeOf at0 = ty) (htm : ty ∈ [FieldType.int, FieldType.byte, FieldType.long]) (htt : (xTY G.2.1)[t]? = some (G.2.1 t, ty)) {n : Int32} {N : Nat} {b : xbd} (hcell : ∀ cA : ClassId, vp_cell cA (N, b) = arrV cA N (fun _ => defaultValue ty)) (hN : N < 2 ^ 20) (hn : n = nI N) (hc9 : cells + 1 ≤ mc) (hs9 : slots + N ≤ ms) (hdg : decode cc pc = .ok (.newarray at0, 2))
    (kk : ∀ (q : Nat) (f1 : xhp) (H1 : Heap), f q = none → f1 = xup f q (.inl (t, N, b)) → xW G A s f1 H1 locs → W p l e R s m args below meth c H1 locs (cells + 1) (slots + N) Q (F0 m (pc + 2) ls (.ref q :: rest))) : W p l e R s m args below meth c H locs cells slots Q (F0 m pc ls (.int n :: rest)) := by
  obtain ⟨hx, hb, hml, hown, hK, hr, hlk, hA, hR1, hR2, hmc, hms⟩ := hX
  obtain ⟨⟨L, hno, hd, hP⟩, hdm, hS⟩ := hW
  have hD : va_D A (va_pl L (xg G.2.1 f)) := xpl_D hno (fun b hb2 => hdm b ((hd b).mp hb2))
  have h8 : componentBytes ty ≤ 8 := by
    simp only [List.mem_cons, List.mem_nil_iff, or_false] at htm
    rcases htm with h | h | h <;> rw [h] <;> decide
  refine va_newa hx hb (hK.2.1.1 _ (by rw [hty]; exact htm) _) hty hK.2.2.1 hP hD hS hA (a0 := (N, b)) hcell (by rw [hn]; exact nI_pos (by omega)) (by rw [hn]; exact nI_clamp (by omega)) (Nat.le_trans (Nat.mul_le_mul (Nat.le_of_lt hN) h8) (by decide)) (by omega) (by omega) hdg (fun q cA H1 hK1 hP1 hD1 hS1 => ?_)
  have e1 : cA = G.2.1 t := by
    have h1 := (hK1.2 5 (cA, ty) (by simp [xTY])).2
    have h2 := (hK.2.2.1.2 t _ htt).2
    simp only [List.mem_cons, List.mem_nil_iff, or_false] at htm
    rcases htm with h | h | h <;> subst h <;> exact Option.some.inj ((show s.vm.findClass _ = some cA from h1).symm.trans h2)
  rw [e1] at hP1 hD1
  obtain ⟨h1, h2, h3⟩ := xHP.more (x := .inl (t, N, b)) hno hd hP1 hD1
  exact kk q _ H1 h1 rfl ⟨h2, xA_more h3 hdm, hS1⟩
theorem x_newq (t : Nat) (hX : xX p R s m args meth c G A cc nL own ret d mc ms) (hW : xW G A s f H locs) {C : String} (hao : va_AO C s) (hl : Cond.classLink own index C ∈ lw_tbl) (htt : (xTY G.2.1)[t]? = some (G.2.1 t, .object C)) {n : Int32} {N : Nat} (hN : N < 2 ^ 20) (hn : n = nI N) (hc9 : cells + 1 ≤ mc) (hs9 : slots + N ≤ ms) (hdg : decode cc pc = .ok (.anewarray index, 3))
    (kk : ∀ (q : Nat) (f1 : xhp) (H1 : Heap), f q = none → f1 = xup f q (.inl (t, N, xbR (fun _ => none))) → xW G A s f1 H1 locs → W p l e R s m args below meth c H1 locs (cells + 1) (slots + N) Q (F0 m (pc + 3) ls (.ref q :: rest))) : W p l e R s m args below meth c H locs cells slots Q (F0 m pc ls (.int n :: rest)) := by
  obtain ⟨hx, hb, hml, hown, hK, hr, hlk, hA, hR1, hR2, hmc, hms⟩ := hX
  obtain ⟨⟨L, hno, hd, hP⟩, hdm, hS⟩ := hW
  have hD : va_D A (va_pl L (xg G.2.1 f)) := xpl_D hno (fun b hb2 => hdm b ((hd b).mp hb2))
  refine va_newq (N' := N) hx hb hown (hK.1 _ hl rfl rfl _) hao hK.2.2.1 hP hD hS hA (by rw [hn]; exact nI_pos (by omega)) (by rw [hn]; exact nI_clamp (by omega)) (by omega) (by omega) (by omega) hdg (fun q cA H1 hK1 hP1 hD1 hS1 => ?_)
  have e1 : cA = G.2.1 t := by
    obtain ⟨-, -, -, -, -, h1⟩ := (hK1.2 5 (cA, .object C) (by simp [xTY])).2
    obtain ⟨-, -, -, -, -, h2⟩ := (hK.2.2.1.2 t _ htt).2
    exact Option.some.inj (h1.symm.trans h2)
  rw [e1] at hP1 hD1
  obtain ⟨h1, h2, h3⟩ := xHP.more (x := .inl (t, N, xbR (fun _ => none))) hno hd hP1 hD1
  exact kk q _ H1 h1 rfl ⟨h2, xA_more h3 hdm, hS1⟩
end XN
section XM
variable {l : Launch} {G : xG} {y : MethodName} {cc : ByteArray} {nL d mc ms : Nat} {ret : Option FieldType} {av : List Value} {f : xhp}
/-- a method's contract out of the walk of its body -/
theorem x_met {Qc : Nat → Array Value → State → Outcome → State → Prop} (hy : plainName y.cls = true) (hsl : (lg_sl av).length ≤ nL)
    (body : ∀ (sz : Nat) (p : Program) (e : Env) (s : State) (m : MethodId) (below : List Frame) (meth : Method) (c : Code) (ls : Array Slot), meth.name = y.name → xX p (xrm d mc ms) s m av.toArray meth c G (xA f sz) cc nL y.cls ret d mc ms → lv_has ls nL (lv_args 0 av) → xW G (xA f sz) s f s.heap [] → W p l e (xrm d mc ms) s m av.toArray below meth c s.heap [] 0 0 (MQ below (Qc sz) av.toArray s mc ms (xA f sz)) (F0 m 0 ls [])) :
    ∀ sz, Met l y [.code y cc nL ret] (xrm d mc ms) (va_Pc av (xPre G f sz)) (Qc sz) mc ms (xA f sz) := by
  intro sz
  refine Met.ofW (cc := cc) (maxL := nL) (ret := ret) hy rfl ?_
  intro p e s m args below meth c s₁ B hml hv
  obtain ⟨rfl, hsz, hP, hK⟩ := hv
  have hl := lv_entry av (n := nL) hsl
  rw [lg_entry_eq]
  generalize (lg_sl av ++ List.replicate (nL - (lg_sl av).length) Slot.unset).toArray = ls at hl ⊢
  subst hsz
  exact body _ p e s m below meth c ls (name_of_methodNamed B.named B.method).1 ⟨B.exec, B.bytes, hml, findClass_of_methodNamed B.named, hK, B.returns, B.notSynchronized, fun q h => Or.inr h, Nat.le_refl _, Nat.le_refl _, rfl, rfl⟩ hl ⟨hP, fun a h => Or.inl h, va_S.rf⟩
end XM
end
section
/-! String literals: ldc_w, length, charAt; the rest that the printed rows use -/
section XS
variable {p : Program} {l : Launch} {e : Env} {R : Room} {s : State} {m : MethodId} {args : Array Value} {below : List Frame} {meth : Method} {c : Code} {H : Heap} {locs : List Loc} {cells slots : Nat} {Q : State → Prop}
variable {cc : ByteArray} {pc : Nat} {ls : Array Slot} {rest : List Value} {G : xG} {A : Nat → Prop} {f : xhp} {nL d mc ms : Nat} {own : String} {ret : Option FieldType} {index : Nat}
theorem x_ldcwS0 {T : State} (X : Stand p l e R s m args below meth c T locs cells slots) (hexec : p.tables.exec = Jvm.exec) {text : String} {a : Addr} (hown : s.vm.findClass own = some m.cls)
    (hconst : (Cond.stringRef own index text).before #[] s = true) (hev : (Term.string own index).eval #[] s none [] s = some (.ref a)) {g : JFrame} (hg : g.method = m) (hdg : decode c.code g.pc = .ok (.ldc_w index, 3)) :
    ∀ target, Steps p.tables e below (T.setTop { g with pc := g.pc + 3, stack := .ref a :: g.stack }) target → Steps p.tables e below (T.setTop g) target := by
  obtain ⟨k, cf, i, a', hk, hcf, hcp, -, hr, hev'⟩ := Cond.stringRef_spec hown hconst
  cases hev.symm.trans hev'
  obtain ⟨k', hk', he⟩ := X.warmed.alike.2.2 _ _ hk
  have hr' : k'.resolved[index]? = some (some (.string a)) := by
    rcases X.warmed.entry hk hk' index with h | ⟨h, -⟩
    · rw [h]; exact hr
    · rw [hr] at h; cases h
  intro target hrest
  subst hg
  jvm_step X.here [hexec, hdg, ldc_w.wp_string (e := e) (s := T) (f := g) X.here.top hk' (by rw [he]; exact hcf) hcp hr']
  exact hrest
theorem x_ldcwS (hX : xX p R s m args meth c G A cc nL own ret d mc ms) {tx : String} {i : Nat} (hq : (own, index, tx, i) ∈ xstr) (hdg : decode cc pc = .ok (.ldc_w index, 3))
    (kk : W p l e R s m args below meth c H locs cells slots Q (F0 m (pc + 3) ls (.ref (G.2.2.1 i) :: rest))) : W p l e R s m args below meth c H locs cells slots Q (F0 m pc ls rest) := by
  obtain ⟨hx, hb, hml, hown, hK, -⟩ := hX
  have hZ := hK.2.2.2.2.1 _ hq
  intro T hT X
  obtain ⟨t, a1, b1⟩ := kk T hT X
  exact ⟨t, x_ldcwS0 X hx hown (text := tx) hZ.1 hZ.2 (g := F0 m pc ls rest) rfl (by rw [hb]; exact hdg) t a1, b1⟩
theorem x_fit (hX : xX p R s m args meth c G A cc nL own ret d mc ms) {a b : Nat} (h : a ≤ mc ∧ b ≤ ms) : a ≤ R.cells ∧ b ≤ R.slots := by
  obtain ⟨-, -, -, -, -, -, -, -, -, -, h1, h2⟩ := hX
  omega
end XS
theorem yk_Mp_init : xY y_Mp_init 0 := ⟨⟨by decide +kernel, by decide +kernel⟩, by decide +kernel⟩
theorem yk_Mp_addWord : xY y_Mp_addWord 1 := ⟨⟨by decide +kernel, by decide +kernel⟩, by decide +kernel⟩
theorem yk_Mp_answerOnTape : xY y_Mp_answerOnTape 1 := ⟨⟨by decide +kernel, by decide +kernel⟩, by decide +kernel⟩
theorem yk_Mp_at : xY y_Mp_at 3 := ⟨⟨by decide +kernel, by decide +kernel⟩, by decide +kernel⟩
theorem yk_Mp_body : xY y_Mp_body 2 := ⟨⟨by decide +kernel, by decide +kernel⟩, by decide +kernel⟩
theorem yk_Mp_byteAt : xY y_Mp_byteAt 1 := ⟨⟨by decide +kernel, by decide +kernel⟩, by decide +kernel⟩
theorem yk_Mp_chooseTexts : xY y_Mp_chooseTexts 0 := ⟨⟨by decide +kernel, by decide +kernel⟩, by decide +kernel⟩
theorem yk_Mp_count : xY y_Mp_count 1 := ⟨⟨by decide +kernel, by decide +kernel⟩, by decide +kernel⟩
theorem yk_Mp_countFields : xY y_Mp_countFields 1 := ⟨⟨by decide +kernel, by decide +kernel⟩, by decide +kernel⟩
theorem yk_Mp_describe : xY y_Mp_describe 1 := ⟨⟨by decide +kernel, by decide +kernel⟩, by decide +kernel⟩
theorem yk_Mp_end : xY y_Mp_end 1 := ⟨⟨by decide +kernel, by decide +kernel⟩, by decide +kernel⟩
theorem yk_Mp_entity : xY y_Mp_entity 2 := ⟨⟨by decide +kernel, by decide +kernel⟩, by decide +kernel⟩
theorem yk_Mp_feed : xY y_Mp_feed 5 := ⟨⟨by decide +kernel, by decide +kernel⟩, by decide +kernel⟩
theorem yk_Mp_field : xY y_Mp_field 1 := ⟨⟨by decide +kernel, by decide +kernel⟩, by decide +kernel⟩
theorem yk_Mp_find : xY y_Mp_find 1 := ⟨⟨by decide +kernel, by decide +kernel⟩, by decide +kernel⟩
theorem yk_Mp_hasBoundary : xY y_Mp_hasBoundary 1 := ⟨⟨by decide +kernel, by decide +kernel⟩, by decide +kernel⟩
theorem yk_Mp_isBlank : xY y_Mp_isBlank 1 := ⟨⟨by decide +kernel, by decide +kernel⟩, by decide +kernel⟩
theorem yk_Mp_isNameByte : xY y_Mp_isNameByte 1 := ⟨⟨by decide +kernel, by decide +kernel⟩, by decide +kernel⟩
theorem yk_Mp_isOpenCoding : xY y_Mp_isOpenCoding 1 := ⟨⟨by decide +kernel, by decide +kernel⟩, by decide +kernel⟩
theorem yk_Mp_length : xY y_Mp_length 2 := ⟨⟨by decide +kernel, by decide +kernel⟩, by decide +kernel⟩
theorem yk_Mp_listLeaves : xY y_Mp_listLeaves 0 := ⟨⟨by decide +kernel, by decide +kernel⟩, by decide +kernel⟩
theorem yk_Mp_loadField : xY y_Mp_loadField 2 := ⟨⟨by decide +kernel, by decide +kernel⟩, by decide +kernel⟩
theorem yk_Mp_loadName : xY y_Mp_loadName 1 := ⟨⟨by decide +kernel, by decide +kernel⟩, by decide +kernel⟩
theorem yk_Mp_loadType : xY y_Mp_loadType 1 := ⟨⟨by decide +kernel, by decide +kernel⟩, by decide +kernel⟩
theorem yk_Mp_loadWord : xY y_Mp_loadWord 2 := ⟨⟨by decide +kernel, by decide +kernel⟩, by decide +kernel⟩
theorem yk_Mp_openEntity : xY y_Mp_openEntity 4 := ⟨⟨by decide +kernel, by decide +kernel⟩, by decide +kernel⟩
theorem yk_Mp_openParts : xY y_Mp_openParts 3 := ⟨⟨by decide +kernel, by decide +kernel⟩, by decide +kernel⟩
theorem yk_Mp_parameter : xY y_Mp_parameter 1 := ⟨⟨by decide +kernel, by decide +kernel⟩, by decide +kernel⟩
theorem yk_Mp_read : xY y_Mp_read 0 := ⟨⟨by decide +kernel, by decide +kernel⟩, by decide +kernel⟩
theorem yk_Mp_rowOf : xY y_Mp_rowOf 1 := ⟨⟨by decide +kernel, by decide +kernel⟩, by decide +kernel⟩
theorem yk_Mp_small : xY y_Mp_small 1 := ⟨⟨by decide +kernel, by decide +kernel⟩, by decide +kernel⟩
theorem yk_Mp_text : xY y_Mp_text 2 := ⟨⟨by decide +kernel, by decide +kernel⟩, by decide +kernel⟩
theorem yk_En_init : xY y_En_init 0 := ⟨⟨by decide +kernel, by decide +kernel⟩, by decide +kernel⟩
theorem yk_Ma_init : xY y_Ma_init 0 := ⟨⟨by decide +kernel, by decide +kernel⟩, by decide +kernel⟩
theorem yk_Ma_addLine : xY y_Ma_addLine 2 := ⟨⟨by decide +kernel, by decide +kernel⟩, by decide +kernel⟩
theorem yk_Ma_beginsBlank : xY y_Ma_beginsBlank 1 := ⟨⟨by decide +kernel, by decide +kernel⟩, by decide +kernel⟩
theorem yk_Ma_colonOf : xY y_Ma_colonOf 1 := ⟨⟨by decide +kernel, by decide +kernel⟩, by decide +kernel⟩
theorem yk_Ma_copyLines : xY y_Ma_copyLines 3 := ⟨⟨by decide +kernel, by decide +kernel⟩, by decide +kernel⟩
theorem yk_Ma_copyValue : xY y_Ma_copyValue 3 := ⟨⟨by decide +kernel, by decide +kernel⟩, by decide +kernel⟩
theorem yk_Ma_fieldLine : xY y_Ma_fieldLine 3 := ⟨⟨by decide +kernel, by decide +kernel⟩, by decide +kernel⟩
theorem yk_Ma_hasDashes : xY y_Ma_hasDashes 2 := ⟨⟨by decide +kernel, by decide +kernel⟩, by decide +kernel⟩
theorem yk_Ma_headStop : xY y_Ma_headStop 2 := ⟨⟨by decide +kernel, by decide +kernel⟩, by decide +kernel⟩
theorem yk_Ma_isEmptyLine : xY y_Ma_isEmptyLine 1 := ⟨⟨by decide +kernel, by decide +kernel⟩, by decide +kernel⟩
theorem yk_Ma_markOf : xY y_Ma_markOf 2 := ⟨⟨by decide +kernel, by decide +kernel⟩, by decide +kernel⟩
theorem yk_Ma_startOf : xY y_Ma_startOf 1 := ⟨⟨by decide +kernel, by decide +kernel⟩, by decide +kernel⟩
theorem yk_Ma_stopOf : xY y_Ma_stopOf 1 := ⟨⟨by decide +kernel, by decide +kernel⟩, by decide +kernel⟩
theorem yk_Ma_take : xY y_Ma_take 1 := ⟨⟨by decide +kernel, by decide +kernel⟩, by decide +kernel⟩
theorem yk_Ro_init : xY y_Ro_init 1 := ⟨⟨by decide +kernel, by decide +kernel⟩, by decide +kernel⟩
theorem yk_Ro_add : xY y_Ro_add 1 := ⟨⟨by decide +kernel, by decide +kernel⟩, by decide +kernel⟩
theorem yk_Ro_addRange : xY y_Ro_addRange 3 := ⟨⟨by decide +kernel, by decide +kernel⟩, by decide +kernel⟩
theorem yk_Ro_begins : xY y_Ro_begins 1 := ⟨⟨by decide +kernel, by decide +kernel⟩, by decide +kernel⟩
theorem yk_Ro_clear : xY y_Ro_clear 0 := ⟨⟨by decide +kernel, by decide +kernel⟩, by decide +kernel⟩
theorem yk_Ro_get : xY y_Ro_get 1 := ⟨⟨by decide +kernel, by decide +kernel⟩, by decide +kernel⟩
theorem yk_Ro_hasName : xY y_Ro_hasName 2 := ⟨⟨by decide +kernel, by decide +kernel⟩, by decide +kernel⟩
theorem yk_Ro_is : xY y_Ro_is 1 := ⟨⟨by decide +kernel, by decide +kernel⟩, by decide +kernel⟩
theorem yk_Ro_put : xY y_Ro_put 1 := ⟨⟨by decide +kernel, by decide +kernel⟩, by decide +kernel⟩
theorem yk_Ro_set : xY y_Ro_set 2 := ⟨⟨by decide +kernel, by decide +kernel⟩, by decide +kernel⟩
theorem yk_Ro_shorten : xY y_Ro_shorten 1 := ⟨⟨by decide +kernel, by decide +kernel⟩, by decide +kernel⟩
theorem yk_Va_init : xY y_Va_init 0 := ⟨⟨by decide +kernel, by decide +kernel⟩, by decide +kernel⟩
theorem yk_Va_aheadOfBlanks : xY y_Va_aheadOfBlanks 2 := ⟨⟨by decide +kernel, by decide +kernel⟩, by decide +kernel⟩
theorem yk_Va_behindBlanks : xY y_Va_behindBlanks 2 := ⟨⟨by decide +kernel, by decide +kernel⟩, by decide +kernel⟩
theorem yk_Va_closing : xY y_Va_closing 0 := ⟨⟨by decide +kernel, by decide +kernel⟩, by decide +kernel⟩
theorem yk_Va_find : xY y_Va_find 3 := ⟨⟨by decide +kernel, by decide +kernel⟩, by decide +kernel⟩
theorem yk_Va_isNamed : xY y_Va_isNamed 3 := ⟨⟨by decide +kernel, by decide +kernel⟩, by decide +kernel⟩
theorem yk_Va_isType : xY y_Va_isType 0 := ⟨⟨by decide +kernel, by decide +kernel⟩, by decide +kernel⟩
theorem yk_Va_keep : xY y_Va_keep 2 := ⟨⟨by decide +kernel, by decide +kernel⟩, by decide +kernel⟩
theorem yk_Va_keepFirstItem : xY y_Va_keepFirstItem 0 := ⟨⟨by decide +kernel, by decide +kernel⟩, by decide +kernel⟩
theorem yk_Va_keepParameter : xY y_Va_keepParameter 1 := ⟨⟨by decide +kernel, by decide +kernel⟩, by decide +kernel⟩
theorem yk_Va_unquote : xY y_Va_unquote 0 := ⟨⟨by decide +kernel, by decide +kernel⟩, by decide +kernel⟩
theorem yk_Mo_init : xY y_Mo_init 0 := ⟨⟨by decide +kernel, by decide +kernel⟩, by decide +kernel⟩
theorem yk_Mo_add : xY y_Mo_add 2 := ⟨⟨by decide +kernel, by decide +kernel⟩, by decide +kernel⟩
theorem yk_Mo_alternative : xY y_Mo_alternative 1 := ⟨⟨by decide +kernel, by decide +kernel⟩, by decide +kernel⟩
theorem yk_Mo_ask : xY y_Mo_ask 0 := ⟨⟨by decide +kernel, by decide +kernel⟩, by decide +kernel⟩
theorem yk_Mo_at : xY y_Mo_at 3 := ⟨⟨by decide +kernel, by decide +kernel⟩, by decide +kernel⟩
theorem yk_Mo_begins : xY y_Mo_begins 1 := ⟨⟨by decide +kernel, by decide +kernel⟩, by decide +kernel⟩
theorem yk_Mo_body : xY y_Mo_body 2 := ⟨⟨by decide +kernel, by decide +kernel⟩, by decide +kernel⟩
theorem yk_Mo_build : xY y_Mo_build 0 := ⟨⟨by decide +kernel, by decide +kernel⟩, by decide +kernel⟩
theorem yk_Mo_byteAt : xY y_Mo_byteAt 1 := ⟨⟨by decide +kernel, by decide +kernel⟩, by decide +kernel⟩
theorem yk_Mo_called : xY y_Mo_called 1 := ⟨⟨by decide +kernel, by decide +kernel⟩, by decide +kernel⟩
theorem yk_Mo_children : xY y_Mo_children 1 := ⟨⟨by decide +kernel, by decide +kernel⟩, by decide +kernel⟩
theorem yk_Mo_colon : xY y_Mo_colon 1 := ⟨⟨by decide +kernel, by decide +kernel⟩, by decide +kernel⟩
theorem yk_Mo_count : xY y_Mo_count 1 := ⟨⟨by decide +kernel, by decide +kernel⟩, by decide +kernel⟩
theorem yk_Mo_end : xY y_Mo_end 1 := ⟨⟨by decide +kernel, by decide +kernel⟩, by decide +kernel⟩
theorem yk_Mo_entity : xY y_Mo_entity 2 := ⟨⟨by decide +kernel, by decide +kernel⟩, by decide +kernel⟩
theorem yk_Mo_feed : xY y_Mo_feed 5 := ⟨⟨by decide +kernel, by decide +kernel⟩, by decide +kernel⟩
theorem yk_Mo_field : xY y_Mo_field 1 := ⟨⟨by decide +kernel, by decide +kernel⟩, by decide +kernel⟩
theorem yk_Mo_fields : xY y_Mo_fields 1 := ⟨⟨by decide +kernel, by decide +kernel⟩, by decide +kernel⟩
theorem yk_Mo_find : xY y_Mo_find 3 := ⟨⟨by decide +kernel, by decide +kernel⟩, by decide +kernel⟩
theorem yk_Mo_findHead : xY y_Mo_findHead 1 := ⟨⟨by decide +kernel, by decide +kernel⟩, by decide +kernel⟩
theorem yk_Mo_findParts : xY y_Mo_findParts 1 := ⟨⟨by decide +kernel, by decide +kernel⟩, by decide +kernel⟩
theorem yk_Mo_findTexts : xY y_Mo_findTexts 0 := ⟨⟨by decide +kernel, by decide +kernel⟩, by decide +kernel⟩
theorem yk_Mo_firstItem : xY y_Mo_firstItem 2 := ⟨⟨by decide +kernel, by decide +kernel⟩, by decide +kernel⟩
theorem yk_Mo_isAlike : xY y_Mo_isAlike 2 := ⟨⟨by decide +kernel, by decide +kernel⟩, by decide +kernel⟩
theorem yk_Mo_isBlank : xY y_Mo_isBlank 1 := ⟨⟨by decide +kernel, by decide +kernel⟩, by decide +kernel⟩
theorem yk_Mo_isEnclosed : xY y_Mo_isEnclosed 1 := ⟨⟨by decide +kernel, by decide +kernel⟩, by decide +kernel⟩
theorem yk_Mo_isGot : xY y_Mo_isGot 1 := ⟨⟨by decide +kernel, by decide +kernel⟩, by decide +kernel⟩
theorem yk_Mo_isHanging : xY y_Mo_isHanging 1 := ⟨⟨by decide +kernel, by decide +kernel⟩, by decide +kernel⟩
theorem yk_Mo_isHung : xY y_Mo_isHung 1 := ⟨⟨by decide +kernel, by decide +kernel⟩, by decide +kernel⟩
theorem yk_Mo_isListed : xY y_Mo_isListed 2 := ⟨⟨by decide +kernel, by decide +kernel⟩, by decide +kernel⟩
theorem yk_Mo_isMulti : xY y_Mo_isMulti 1 := ⟨⟨by decide +kernel, by decide +kernel⟩, by decide +kernel⟩
theorem yk_Mo_isName : xY y_Mo_isName 1 := ⟨⟨by decide +kernel, by decide +kernel⟩, by decide +kernel⟩
theorem yk_Mo_isThere : xY y_Mo_isThere 1 := ⟨⟨by decide +kernel, by decide +kernel⟩, by decide +kernel⟩
theorem yk_Mo_isType : xY y_Mo_isType 0 := ⟨⟨by decide +kernel, by decide +kernel⟩, by decide +kernel⟩
theorem yk_Mo_isWord : xY y_Mo_isWord 5 := ⟨⟨by decide +kernel, by decide +kernel⟩, by decide +kernel⟩
theorem yk_Mo_itemize : xY y_Mo_itemize 0 := ⟨⟨by decide +kernel, by decide +kernel⟩, by decide +kernel⟩
theorem yk_Mo_keep : xY y_Mo_keep 3 := ⟨⟨by decide +kernel, by decide +kernel⟩, by decide +kernel⟩
theorem yk_Mo_length : xY y_Mo_length 2 := ⟨⟨by decide +kernel, by decide +kernel⟩, by decide +kernel⟩
theorem yk_Mo_look : xY y_Mo_look 1 := ⟨⟨by decide +kernel, by decide +kernel⟩, by decide +kernel⟩
theorem yk_Mo_marked : xY y_Mo_marked 1 := ⟨⟨by decide +kernel, by decide +kernel⟩, by decide +kernel⟩
theorem yk_Mo_nothing : xY y_Mo_nothing 0 := ⟨⟨by decide +kernel, by decide +kernel⟩, by decide +kernel⟩
theorem yk_Mo_over : xY y_Mo_over 2 := ⟨⟨by decide +kernel, by decide +kernel⟩, by decide +kernel⟩
theorem yk_Mo_parameter : xY y_Mo_parameter 1 := ⟨⟨by decide +kernel, by decide +kernel⟩, by decide +kernel⟩
theorem yk_Mo_parameterOf : xY y_Mo_parameterOf 2 := ⟨⟨by decide +kernel, by decide +kernel⟩, by decide +kernel⟩
theorem yk_Mo_place : xY y_Mo_place 1 := ⟨⟨by decide +kernel, by decide +kernel⟩, by decide +kernel⟩
theorem yk_Mo_push : xY y_Mo_push 3 := ⟨⟨by decide +kernel, by decide +kernel⟩, by decide +kernel⟩
theorem yk_Mo_put : xY y_Mo_put 2 := ⟨⟨by decide +kernel, by decide +kernel⟩, by decide +kernel⟩
theorem yk_Mo_read : xY y_Mo_read 0 := ⟨⟨by decide +kernel, by decide +kernel⟩, by decide +kernel⟩
theorem yk_Mo_set : xY y_Mo_set 1 := ⟨⟨by decide +kernel, by decide +kernel⟩, by decide +kernel⟩
theorem yk_Mo_small : xY y_Mo_small 1 := ⟨⟨by decide +kernel, by decide +kernel⟩, by decide +kernel⟩
theorem yk_Mo_split : xY y_Mo_split 0 := ⟨⟨by decide +kernel, by decide +kernel⟩, by decide +kernel⟩
theorem yk_Mo_tell : xY y_Mo_tell 2 := ⟨⟨by decide +kernel, by decide +kernel⟩, by decide +kernel⟩
theorem yk_Mo_text : xY y_Mo_text 2 := ⟨⟨by decide +kernel, by decide +kernel⟩, by decide +kernel⟩
theorem yk_Mo_trim : xY y_Mo_trim 2 := ⟨⟨by decide +kernel, by decide +kernel⟩, by decide +kernel⟩
theorem yk_Mo_type : xY y_Mo_type 1 := ⟨⟨by decide +kernel, by decide +kernel⟩, by decide +kernel⟩
theorem yk_Mo_unquote : xY y_Mo_unquote 0 := ⟨⟨by decide +kernel, by decide +kernel⟩, by decide +kernel⟩
def y_JS_length : MethodName := ⟨"java/lang/String", "length", "()I"⟩
theorem yk_JS_length : xY y_JS_length 0 := ⟨⟨by decide +kernel, by decide +kernel⟩, by decide +kernel⟩
def y_JS_charAt : MethodName := ⟨"java/lang/String", "charAt", "(I)C"⟩
theorem yk_JS_charAt : xY y_JS_charAt 1 := ⟨⟨by decide +kernel, by decide +kernel⟩, by decide +kernel⟩
abbrev dv_En : List Value := [.int 0, .int 0, .int 0, .int 0, .int 0, .int 0, .int 0, .int 0, .int 0, .int 0, .int 0, .int 0, .int 0, .int 0, .int 0, .int 0, .int 0]
theorem df_En : ∀ j, j < 17 → defaultValue (t_En j) = vp_V dv_En j := by decide +kernel
abbrev dv_Ma : List Value := [.null, .null, .null, .int 0]
theorem df_Ma : ∀ j, j < 4 → defaultValue (t_Ma j) = vp_V dv_Ma j := by decide +kernel
abbrev dv_Ro : List Value := [.null, .int 0]
theorem df_Ro : ∀ j, j < 2 → defaultValue (t_Ro j) = vp_V dv_Ro j := by decide +kernel
abbrev dv_Va : List Value := [.null]
theorem df_Va : ∀ j, j < 1 → defaultValue (t_Va j) = vp_V dv_Va j := by decide +kernel
abbrev dv_Mp : List Value := [.null, .null, .null, .null, .null, .null, .null, .null, .null, .null, .null, .null, .null, .null, .int 0, .int 0]
theorem df_Mp : ∀ j, j < 16 → defaultValue (t_Mp j) = vp_V dv_Mp j := by decide +kernel
abbrev dv_Mo : List Value := [.null, .null, .null, .null, .null, .null, .null, .null, .null, .null, .null, .null, .null, .null, .null, .null, .null, .null, .null, .int 0, .null, .int 0, .int 0, .int 0, .null, .null, .int 0, .int 0, .null, .null, .null, .null, .null, .null, .null, .null, .long 0, .long 0, .int 0, .null, .null, .null, .int 0, .null, .null, .null, .int 0, .int 0, .int 0, .int 0, .null, .null, .null, .int 0, .null, .int 0, .null]
theorem df_Mo : ∀ j, j < 57 → defaultValue (t_Mo j) = vp_V dv_Mo j := by decide +kernel
end
section
section
variable {p : Program} {l : Launch} {e : Env} {R : Room} {s : State} {m : MethodId} {args : Array Value} {below : List Frame} {meth : Method} {c : Code} {G : xG} {f0 : xhp} {sz : Nat}
/-! MailParts.isBlank(I)Z -/
def w_Mp_isBlank_17 (post : Int32 → xhp → Prop) (s0 : Int32) (f : xhp) : Prop :=
  xz s0 ∧ post s0 f
set_option maxHeartbeats 4000000 in
set_option maxRecDepth 100000 in
theorem s_Mp_isBlank_17 {post : Int32 → xhp → Prop} (hin : meth.name = "isBlank") (hX : xX p R s m args meth c G (xA f0 sz) b_Mp_isBlank 1 "MailParts" (some .boolean) 0 0 0) {s0 : Int32} {f : xhp} {H : Heap} {locs : List Loc} {ls : Array Slot} (hl : lv_has ls 1 []) (hW : xW G (xA f0 sz) s f H locs) (h : w_Mp_isBlank_17 post s0 f) : W p l e R s m args below meth c H locs 0 0 (MQ below (va_Qi post (xAt G f0 sz) (xA f0 sz)) args s 0 0 (xA f0 sz)) (F0 m 17 ls [.int s0]) := by
  have hx := hX.1
  have hb := hX.2.1
  exact x_zret hX hW h.1 h.2 d_Mp_isBlank_17
def w_Mp_isBlank_12 (post : Int32 → xhp → Prop) (f : xhp) : Prop :=
  w_Mp_isBlank_17 post 1 f
set_option maxHeartbeats 4000000 in
set_option maxRecDepth 100000 in
theorem s_Mp_isBlank_12 {post : Int32 → xhp → Prop} (hin : meth.name = "isBlank") (hX : xX p R s m args meth c G (xA f0 sz) b_Mp_isBlank 1 "MailParts" (some .boolean) 0 0 0)  {f : xhp} {H : Heap} {locs : List Loc} {ls : Array Slot} (hl : lv_has ls 1 []) (hW : xW G (xA f0 sz) s f H locs) (h : w_Mp_isBlank_12 post  f) : W p l e R s m args below meth c H locs 0 0 (MQ below (va_Qi post (xAt G f0 sz) (xA f0 sz)) args s 0 0 (xA f0 sz)) (F0 m 12 ls []) := by
  have hx := hX.1
  have hb := hX.2.1
  refine lv_iconst (v := 1) hx hb d_Mp_isBlank_12 (by decide) ?_
  refine lv_goto (tgt := 17) hx hb d_Mp_isBlank_13 (by decide) ?_
  exact s_Mp_isBlank_17 hin hX (lv_sub hl [] rfl) hW h
def w_Mp_isBlank (post : Int32 → xhp → Prop) (p0 : Int32) (f : xhp) : Prop :=
  ((p0 = 32 →
    w_Mp_isBlank_12 post f) ∧
  (¬ p0 = 32 →
    ((¬ p0 = 9 →
      w_Mp_isBlank_17 post 0 f) ∧
    (p0 = 9 →
      w_Mp_isBlank_12 post f))))
set_option maxHeartbeats 4000000 in
set_option maxRecDepth 100000 in
theorem c_Mp_isBlank {l : Launch} {G : xG} {post : Int32 → xhp → Prop} {p0 : Int32} {f : xhp} (h : w_Mp_isBlank post p0 f) : xMi l G y_Mp_isBlank b_Mp_isBlank 1 (some .boolean) 0 0 0 [.int p0] f post := by
  refine x_met (by decide) (Nat.le_of_ble_eq_true rfl) ?_
  intro sz p e s m below meth c ls hin hX hl hW
  have hl : lv_has ls 1 [(0, .int p0)] := hl
  have hx := hX.1
  have hb := hX.2.1
  refine lv_iload_n hx hb d_Mp_isBlank_0 rfl (lv_at hl 0 rfl) ?_
  refine lv_bipush (v := 32) hx hb d_Mp_isBlank_1 (by decide) ?_
  refine lv_icmp_eq (tgt := 12) hx hb d_Mp_isBlank_3 (by decide) (fun qc => ?_) (fun qc => ?_)
  · replace h := h.1 qc
    exact s_Mp_isBlank_12 hin hX (lv_sub hl [] rfl) hW h
  · replace h := h.2 qc
    refine lv_iload_n hx hb d_Mp_isBlank_6 rfl (lv_at hl 0 rfl) ?_
    refine lv_bipush (v := 9) hx hb d_Mp_isBlank_7 (by decide) ?_
    refine lv_icmp_ne (tgt := 16) hx hb d_Mp_isBlank_9 (by decide) (fun qc => ?_) (fun qc => ?_)
    · replace h := h.1 qc
      refine lv_iconst (v := 0) hx hb d_Mp_isBlank_16 (by decide) ?_
      exact s_Mp_isBlank_17 hin hX (lv_sub hl [] rfl) hW h
    · replace h := h.2 qc
      exact s_Mp_isBlank_12 hin hX (lv_sub hl [] rfl) hW h
/-! MailParts.isNameByte(I)Z -/
def w_Mp_isNameByte_47 (post : Int32 → xhp → Prop) (s0 : Int32) (f : xhp) : Prop :=
  xz s0 ∧ post s0 f
set_option maxHeartbeats 4000000 in
set_option maxRecDepth 100000 in
theorem s_Mp_isNameByte_47 {post : Int32 → xhp → Prop} (hin : meth.name = "isNameByte") (hX : xX p R s m args meth c G (xA f0 sz) b_Mp_isNameByte 1 "MailParts" (some .boolean) 0 0 0) {s0 : Int32} {f : xhp} {H : Heap} {locs : List Loc} {ls : Array Slot} (hl : lv_has ls 1 []) (hW : xW G (xA f0 sz) s f H locs) (h : w_Mp_isNameByte_47 post s0 f) : W p l e R s m args below meth c H locs 0 0 (MQ below (va_Qi post (xAt G f0 sz) (xA f0 sz)) args s 0 0 (xA f0 sz)) (F0 m 47 ls [.int s0]) := by
  have hx := hX.1
  have hb := hX.2.1
  exact x_zret hX hW h.1 h.2 d_Mp_isNameByte_47
def w_Mp_isNameByte_42 (post : Int32 → xhp → Prop) (f : xhp) : Prop :=
  w_Mp_isNameByte_47 post 1 f
set_option maxHeartbeats 4000000 in
set_option maxRecDepth 100000 in
theorem s_Mp_isNameByte_42 {post : Int32 → xhp → Prop} (hin : meth.name = "isNameByte") (hX : xX p R s m args meth c G (xA f0 sz) b_Mp_isNameByte 1 "MailParts" (some .boolean) 0 0 0)  {f : xhp} {H : Heap} {locs : List Loc} {ls : Array Slot} (hl : lv_has ls 1 []) (hW : xW G (xA f0 sz) s f H locs) (h : w_Mp_isNameByte_42 post  f) : W p l e R s m args below meth c H locs 0 0 (MQ below (va_Qi post (xAt G f0 sz) (xA f0 sz)) args s 0 0 (xA f0 sz)) (F0 m 42 ls []) := by
  have hx := hX.1
  have hb := hX.2.1
  refine lv_iconst (v := 1) hx hb d_Mp_isNameByte_42 (by decide) ?_
  refine lv_goto (tgt := 47) hx hb d_Mp_isNameByte_43 (by decide) ?_
  exact s_Mp_isNameByte_47 hin hX (lv_sub hl [] rfl) hW h
def w_Mp_isNameByte_36 (post : Int32 → xhp → Prop) (p0 : Int32) (f : xhp) : Prop :=
  ((¬ p0 = 45 →
    w_Mp_isNameByte_47 post 0 f) ∧
  (p0 = 45 →
    w_Mp_isNameByte_42 post f))
set_option maxHeartbeats 4000000 in
set_option maxRecDepth 100000 in
theorem s_Mp_isNameByte_36 {post : Int32 → xhp → Prop} (hin : meth.name = "isNameByte") (hX : xX p R s m args meth c G (xA f0 sz) b_Mp_isNameByte 1 "MailParts" (some .boolean) 0 0 0) {p0 : Int32} {f : xhp} {H : Heap} {locs : List Loc} {ls : Array Slot} (hl : lv_has ls 1 [(0, .int p0)]) (hW : xW G (xA f0 sz) s f H locs) (h : w_Mp_isNameByte_36 post p0 f) : W p l e R s m args below meth c H locs 0 0 (MQ below (va_Qi post (xAt G f0 sz) (xA f0 sz)) args s 0 0 (xA f0 sz)) (F0 m 36 ls []) := by
  have hx := hX.1
  have hb := hX.2.1
  refine lv_iload_n hx hb d_Mp_isNameByte_36 rfl (lv_at hl 0 rfl) ?_
  refine lv_bipush (v := 45) hx hb d_Mp_isNameByte_37 (by decide) ?_
  refine lv_icmp_ne (tgt := 46) hx hb d_Mp_isNameByte_39 (by decide) (fun qc => ?_) (fun qc => ?_)
  · replace h := h.1 qc
    refine lv_iconst (v := 0) hx hb d_Mp_isNameByte_46 (by decide) ?_
    exact s_Mp_isNameByte_47 hin hX (lv_sub hl [] rfl) hW h
  · replace h := h.2 qc
    exact s_Mp_isNameByte_42 hin hX (lv_sub hl [] rfl) hW h
def w_Mp_isNameByte_24 (post : Int32 → xhp → Prop) (p0 : Int32) (f : xhp) : Prop :=
  ((p0 < 48 →
    w_Mp_isNameByte_36 post p0 f) ∧
  (¬ p0 < 48 →
    ((p0 ≤ 57 →
      w_Mp_isNameByte_42 post f) ∧
    (¬ p0 ≤ 57 →
      w_Mp_isNameByte_36 post p0 f))))
set_option maxHeartbeats 4000000 in
set_option maxRecDepth 100000 in
theorem s_Mp_isNameByte_24 {post : Int32 → xhp → Prop} (hin : meth.name = "isNameByte") (hX : xX p R s m args meth c G (xA f0 sz) b_Mp_isNameByte 1 "MailParts" (some .boolean) 0 0 0) {p0 : Int32} {f : xhp} {H : Heap} {locs : List Loc} {ls : Array Slot} (hl : lv_has ls 1 [(0, .int p0)]) (hW : xW G (xA f0 sz) s f H locs) (h : w_Mp_isNameByte_24 post p0 f) : W p l e R s m args below meth c H locs 0 0 (MQ below (va_Qi post (xAt G f0 sz) (xA f0 sz)) args s 0 0 (xA f0 sz)) (F0 m 24 ls []) := by
  have hx := hX.1
  have hb := hX.2.1
  refine lv_iload_n hx hb d_Mp_isNameByte_24 rfl (lv_at hl 0 rfl) ?_
  refine lv_bipush (v := 48) hx hb d_Mp_isNameByte_25 (by decide) ?_
  refine lv_icmp_lt (tgt := 36) hx hb d_Mp_isNameByte_27 (by decide) (fun qc => ?_) (fun qc => ?_)
  · replace h := h.1 qc
    exact s_Mp_isNameByte_36 hin hX (lv_sub hl [0] rfl) hW h
  · replace h := h.2 qc
    refine lv_iload_n hx hb d_Mp_isNameByte_30 rfl (lv_at hl 0 rfl) ?_
    refine lv_bipush (v := 57) hx hb d_Mp_isNameByte_31 (by decide) ?_
    refine lv_icmp_le (tgt := 42) hx hb d_Mp_isNameByte_33 (by decide) (fun qc => ?_) (fun qc => ?_)
    · replace h := h.1 qc
      exact s_Mp_isNameByte_42 hin hX (lv_sub hl [] rfl) hW h
    · replace h := h.2 qc
      exact s_Mp_isNameByte_36 hin hX (lv_sub hl [0] rfl) hW h
def w_Mp_isNameByte_12 (post : Int32 → xhp → Prop) (p0 : Int32) (f : xhp) : Prop :=
  ((p0 < 65 →
    w_Mp_isNameByte_24 post p0 f) ∧
  (¬ p0 < 65 →
    ((p0 ≤ 90 →
      w_Mp_isNameByte_42 post f) ∧
    (¬ p0 ≤ 90 →
      w_Mp_isNameByte_24 post p0 f))))
set_option maxHeartbeats 4000000 in
set_option maxRecDepth 100000 in
theorem s_Mp_isNameByte_12 {post : Int32 → xhp → Prop} (hin : meth.name = "isNameByte") (hX : xX p R s m args meth c G (xA f0 sz) b_Mp_isNameByte 1 "MailParts" (some .boolean) 0 0 0) {p0 : Int32} {f : xhp} {H : Heap} {locs : List Loc} {ls : Array Slot} (hl : lv_has ls 1 [(0, .int p0)]) (hW : xW G (xA f0 sz) s f H locs) (h : w_Mp_isNameByte_12 post p0 f) : W p l e R s m args below meth c H locs 0 0 (MQ below (va_Qi post (xAt G f0 sz) (xA f0 sz)) args s 0 0 (xA f0 sz)) (F0 m 12 ls []) := by
  have hx := hX.1
  have hb := hX.2.1
  refine lv_iload_n hx hb d_Mp_isNameByte_12 rfl (lv_at hl 0 rfl) ?_
  refine lv_bipush (v := 65) hx hb d_Mp_isNameByte_13 (by decide) ?_
  refine lv_icmp_lt (tgt := 24) hx hb d_Mp_isNameByte_15 (by decide) (fun qc => ?_) (fun qc => ?_)
  · replace h := h.1 qc
    exact s_Mp_isNameByte_24 hin hX (lv_sub hl [0] rfl) hW h
  · replace h := h.2 qc
    refine lv_iload_n hx hb d_Mp_isNameByte_18 rfl (lv_at hl 0 rfl) ?_
    refine lv_bipush (v := 90) hx hb d_Mp_isNameByte_19 (by decide) ?_
    refine lv_icmp_le (tgt := 42) hx hb d_Mp_isNameByte_21 (by decide) (fun qc => ?_) (fun qc => ?_)
    · replace h := h.1 qc
      exact s_Mp_isNameByte_42 hin hX (lv_sub hl [] rfl) hW h
    · replace h := h.2 qc
      exact s_Mp_isNameByte_24 hin hX (lv_sub hl [0] rfl) hW h
def w_Mp_isNameByte (post : Int32 → xhp → Prop) (p0 : Int32) (f : xhp) : Prop :=
  ((p0 < 97 →
    w_Mp_isNameByte_12 post p0 f) ∧
  (¬ p0 < 97 →
    ((p0 ≤ 122 →
      w_Mp_isNameByte_42 post f) ∧
    (¬ p0 ≤ 122 →
      w_Mp_isNameByte_12 post p0 f))))
set_option maxHeartbeats 4000000 in
set_option maxRecDepth 100000 in
theorem c_Mp_isNameByte {l : Launch} {G : xG} {post : Int32 → xhp → Prop} {p0 : Int32} {f : xhp} (h : w_Mp_isNameByte post p0 f) : xMi l G y_Mp_isNameByte b_Mp_isNameByte 1 (some .boolean) 0 0 0 [.int p0] f post := by
  refine x_met (by decide) (Nat.le_of_ble_eq_true rfl) ?_
  intro sz p e s m below meth c ls hin hX hl hW
  have hl : lv_has ls 1 [(0, .int p0)] := hl
  have hx := hX.1
  have hb := hX.2.1
  refine lv_iload_n hx hb d_Mp_isNameByte_0 rfl (lv_at hl 0 rfl) ?_
  refine lv_bipush (v := 97) hx hb d_Mp_isNameByte_1 (by decide) ?_
  refine lv_icmp_lt (tgt := 12) hx hb d_Mp_isNameByte_3 (by decide) (fun qc => ?_) (fun qc => ?_)
  · replace h := h.1 qc
    exact s_Mp_isNameByte_12 hin hX (lv_sub hl [0] rfl) hW h
  · replace h := h.2 qc
    refine lv_iload_n hx hb d_Mp_isNameByte_6 rfl (lv_at hl 0 rfl) ?_
    refine lv_bipush (v := 122) hx hb d_Mp_isNameByte_7 (by decide) ?_
    refine lv_icmp_le (tgt := 42) hx hb d_Mp_isNameByte_9 (by decide) (fun qc => ?_) (fun qc => ?_)
    · replace h := h.1 qc
      exact s_Mp_isNameByte_42 hin hX (lv_sub hl [] rfl) hW h
    · replace h := h.2 qc
      exact s_Mp_isNameByte_12 hin hX (lv_sub hl [0] rfl) hW h
/-! MailParts.small(I)I -/
def w_Mp_small_20 (post : Int32 → xhp → Prop) (s0 : Int32) (f : xhp) : Prop :=
  post s0 f
set_option maxHeartbeats 4000000 in
set_option maxRecDepth 100000 in
theorem s_Mp_small_20 {post : Int32 → xhp → Prop} (hin : meth.name = "small") (hX : xX p R s m args meth c G (xA f0 sz) b_Mp_small 1 "MailParts" (some .int) 0 0 0) {s0 : Int32} {f : xhp} {H : Heap} {locs : List Loc} {ls : Array Slot} (hl : lv_has ls 1 []) (hW : xW G (xA f0 sz) s f H locs) (h : w_Mp_small_20 post s0 f) : W p l e R s m args below meth c H locs 0 0 (MQ below (va_Qi post (xAt G f0 sz) (xA f0 sz)) args s 0 0 (xA f0 sz)) (F0 m 20 ls [.int s0]) := by
  have hx := hX.1
  have hb := hX.2.1
  exact x_iret hX hW h d_Mp_small_20
def w_Mp_small_19 (post : Int32 → xhp → Prop) (p0 : Int32) (f : xhp) : Prop :=
  w_Mp_small_20 post p0 f
set_option maxHeartbeats 4000000 in
set_option maxRecDepth 100000 in
theorem s_Mp_small_19 {post : Int32 → xhp → Prop} (hin : meth.name = "small") (hX : xX p R s m args meth c G (xA f0 sz) b_Mp_small 1 "MailParts" (some .int) 0 0 0) {p0 : Int32} {f : xhp} {H : Heap} {locs : List Loc} {ls : Array Slot} (hl : lv_has ls 1 [(0, .int p0)]) (hW : xW G (xA f0 sz) s f H locs) (h : w_Mp_small_19 post p0 f) : W p l e R s m args below meth c H locs 0 0 (MQ below (va_Qi post (xAt G f0 sz) (xA f0 sz)) args s 0 0 (xA f0 sz)) (F0 m 19 ls []) := by
  have hx := hX.1
  have hb := hX.2.1
  refine lv_iload_n hx hb d_Mp_small_19 rfl (lv_at hl 0 rfl) ?_
  exact s_Mp_small_20 hin hX (lv_sub hl [] rfl) hW h
def w_Mp_small (post : Int32 → xhp → Prop) (p0 : Int32) (f : xhp) : Prop :=
  ((p0 < 65 →
    w_Mp_small_19 post p0 f) ∧
  (¬ p0 < 65 →
    ((90 < p0 →
      w_Mp_small_19 post p0 f) ∧
    (¬ 90 < p0 →
      w_Mp_small_20 post (p0 + 32) f))))
set_option maxHeartbeats 4000000 in
set_option maxRecDepth 100000 in
theorem c_Mp_small {l : Launch} {G : xG} {post : Int32 → xhp → Prop} {p0 : Int32} {f : xhp} (h : w_Mp_small post p0 f) : xMi l G y_Mp_small b_Mp_small 1 (some .int) 0 0 0 [.int p0] f post := by
  refine x_met (by decide) (Nat.le_of_ble_eq_true rfl) ?_
  intro sz p e s m below meth c ls hin hX hl hW
  have hl : lv_has ls 1 [(0, .int p0)] := hl
  have hx := hX.1
  have hb := hX.2.1
  refine lv_iload_n hx hb d_Mp_small_0 rfl (lv_at hl 0 rfl) ?_
  refine lv_bipush (v := 65) hx hb d_Mp_small_1 (by decide) ?_
  refine lv_icmp_lt (tgt := 19) hx hb d_Mp_small_3 (by decide) (fun qc => ?_) (fun qc => ?_)
  · replace h := h.1 qc
    exact s_Mp_small_19 hin hX (lv_sub hl [0] rfl) hW h
  · replace h := h.2 qc
    refine lv_iload_n hx hb d_Mp_small_6 rfl (lv_at hl 0 rfl) ?_
    refine lv_bipush (v := 90) hx hb d_Mp_small_7 (by decide) ?_
    refine lv_icmp_gt (tgt := 19) hx hb d_Mp_small_9 (by decide) (fun qc => ?_) (fun qc => ?_)
    · replace h := h.1 qc
      exact s_Mp_small_19 hin hX (lv_sub hl [0] rfl) hW h
    · replace h := h.2 qc
      refine lv_iload_n hx hb d_Mp_small_12 rfl (lv_at hl 0 rfl) ?_
      refine lv_bipush (v := 32) hx hb d_Mp_small_13 (by decide) ?_
      refine lv_iadd hx hb d_Mp_small_15 ?_
      refine lv_goto (tgt := 20) hx hb d_Mp_small_16 (by decide) ?_
      exact s_Mp_small_20 hin hX (lv_sub hl [] rfl) hW h
/-! MailParts$Row.add(I)V -/
def w_Ro_add_39 (post : xhp → Prop) (f : xhp) : Prop :=
  post f
set_option maxHeartbeats 4000000 in
set_option maxRecDepth 100000 in
theorem s_Ro_add_39 {post : xhp → Prop} (hin : meth.name = "add") (hX : xX p R s m args meth c G (xA f0 sz) b_Ro_add 2 "MailParts$Row" none 0 0 0)  {f : xhp} {H : Heap} {locs : List Loc} {ls : Array Slot} (hl : lv_has ls 2 []) (hW : xW G (xA f0 sz) s f H locs) (h : w_Ro_add_39 post  f) : W p l e R s m args below meth c H locs 0 0 (MQ below (va_Qv post (xAt G f0 sz) (xA f0 sz)) args s 0 0 (xA f0 sz)) (F0 m 39 ls []) := by
  have hx := hX.1
  have hb := hX.2.1
  exact x_vret hX hW h d_Ro_add_39
def w_Ro_add (post : xhp → Prop) (p0 : Nat) (p1 : Int32) (f : xhp) : Prop :=
  ∃ v1 : Int32, xV f p0 2 1 (.int v1) ∧
  ((v1 < 0 →
    w_Ro_add_39 post f) ∧
  (¬ v1 < 0 →
    ∃ v2 : Int32, xV f p0 2 1 (.int v2) ∧
    ∃ a3 : Nat, xV f p0 2 0 (.ref a3) ∧
    ∃ (t7 n4 : Nat) (b5 : xbd), xB f a3 t7 n4 b5 ∧ t7 < xnT ∧
    (((nI n4) ≤ v2 →
      w_Ro_add_39 post f) ∧
    (¬ (nI n4) ≤ v2 →
      ∃ a8 : Nat, xV f p0 2 0 (.ref a8) ∧
      ∃ v9 : Int32, xV f p0 2 1 (.int v9) ∧
      ∃ (n10 : Nat) (g11 : Nat → Int32), xB f a8 0 n10 (xbI g11) ∧ vp_in v9 n10 ∧ ∀ f12 : xhp, f12 = xup f a8 (.inl (0, n10, xbI (upd g11 v9.toNatClampNeg p1))) →
      ∃ v13 : Int32, xV f12 p0 2 1 (.int v13) ∧
      ∃ fs14 : List Value, f12 p0 = some (.inr (2, fs14)) ∧ 1 < fs14.length ∧ ∀ f15 : xhp, f15 = xup f12 p0 (.inr (2, fs14.set 1 (.int (v13 + 1)))) →
      w_Ro_add_39 post f15))))
set_option maxHeartbeats 4000000 in
set_option maxRecDepth 100000 in
theorem c_Ro_add {l : Launch} {G : xG} {post : xhp → Prop} {p0 : Nat} {p1 : Int32} {f : xhp} (h : w_Ro_add post p0 p1 f) : xMv l G y_Ro_add b_Ro_add 2 none 0 0 0 [.ref p0, .int p1] f post := by
  refine x_met (by decide) (Nat.le_of_ble_eq_true rfl) ?_
  intro sz p e s m below meth c ls hin hX hl hW
  have hl : lv_has ls 2 [(0, .ref p0), (1, .int p1)] := hl
  have hx := hX.1
  have hb := hX.2.1
  refine lv_aload_n hx hb d_Ro_add_0 rfl (lv_at hl 0 rfl) ?_
  obtain ⟨v1, hv, h⟩ := h
  refine x_get hX hW hv i_Ro rfl (by decide) kw_30 rfl d_Ro_add_1 ?_
  refine lv_if_lt (tgt := 39) hx hb d_Ro_add_4 (by decide) (fun qc => ?_) (fun qc => ?_)
  · replace h := h.1 qc
    exact s_Ro_add_39 hin hX (lv_sub hl [] rfl) hW h
  · replace h := h.2 qc
    refine lv_aload_n hx hb d_Ro_add_7 rfl (lv_at hl 0 rfl) ?_
    obtain ⟨v2, hv, h⟩ := h
    refine x_get hX hW hv i_Ro rfl (by decide) kw_30 rfl d_Ro_add_8 ?_
    refine lv_aload_n hx hb d_Ro_add_11 rfl (lv_at hl 0 rfl) ?_
    obtain ⟨a3, hv, h⟩ := h
    refine x_get hX hW hv i_Ro rfl (by decide) kw_29 rfl d_Ro_add_12 ?_
    obtain ⟨t7, n4, b5, hv, ht, h⟩ := h
    refine x_alen hX hW hv ht d_Ro_add_15 ?_
    refine lv_icmp_ge (tgt := 39) hx hb d_Ro_add_16 (by decide) (fun qc => ?_) (fun qc => ?_)
    · replace h := h.1 qc
      exact s_Ro_add_39 hin hX (lv_sub hl [] rfl) hW h
    · replace h := h.2 qc
      refine lv_aload_n hx hb d_Ro_add_19 rfl (lv_at hl 0 rfl) ?_
      obtain ⟨a8, hv, h⟩ := h
      refine x_get hX hW hv i_Ro rfl (by decide) kw_29 rfl d_Ro_add_20 ?_
      refine lv_aload_n hx hb d_Ro_add_23 rfl (lv_at hl 0 rfl) ?_
      obtain ⟨v9, hv, h⟩ := h
      refine x_get hX hW hv i_Ro rfl (by decide) kw_30 rfl d_Ro_add_24 ?_
      refine lv_iload_n hx hb d_Ro_add_27 rfl (lv_at hl 1 rfl) ?_
      obtain ⟨n10, g11, hv, hi, h⟩ := h
      refine x_iast hX hW hv hi d_Ro_add_28 (fun f12 H locs ef hW => ?_)
      replace h := h _ ef
      clear ef
      refine lv_aload_n hx hb d_Ro_add_29 rfl (lv_at hl 0 rfl) ?_
      refine lv_dup hx hb d_Ro_add_30 rfl ?_
      obtain ⟨v13, hv, h⟩ := h
      refine x_get hX hW hv i_Ro rfl (by decide) kw_30 rfl d_Ro_add_31 ?_
      refine lv_iconst (v := 1) hx hb d_Ro_add_34 (by decide) ?_
      refine lv_iadd hx hb d_Ro_add_35 ?_
      obtain ⟨fs14, hv, hlen, h⟩ := h
      refine x_put hX hW hv hlen i_Ro t_Ro t_Ro_ok n_Ro rfl (by decide) kw_30 rfl rfl rfl rfl d_Ro_add_36 (fun f15 H locs ef hW => ?_)
      replace h := h _ ef
      clear ef
      exact s_Ro_add_39 hin hX (lv_sub hl [] rfl) hW h
/-! MailParts$Row.clear()V -/
def w_Ro_clear (post : xhp → Prop) (p0 : Nat) (f : xhp) : Prop :=
  ∃ fs1 : List Value, f p0 = some (.inr (2, fs1)) ∧ 1 < fs1.length ∧ ∀ f2 : xhp, f2 = xup f p0 (.inr (2, fs1.set 1 (.int 0))) →
  post f2
set_option maxHeartbeats 4000000 in
set_option maxRecDepth 100000 in
theorem c_Ro_clear {l : Launch} {G : xG} {post : xhp → Prop} {p0 : Nat} {f : xhp} (h : w_Ro_clear post p0 f) : xMv l G y_Ro_clear b_Ro_clear 1 none 0 0 0 [.ref p0] f post := by
  refine x_met (by decide) (Nat.le_of_ble_eq_true rfl) ?_
  intro sz p e s m below meth c ls hin hX hl hW
  have hl : lv_has ls 1 [(0, .ref p0)] := hl
  have hx := hX.1
  have hb := hX.2.1
  refine lv_aload_n hx hb d_Ro_clear_0 rfl (lv_at hl 0 rfl) ?_
  refine lv_iconst (v := 0) hx hb d_Ro_clear_1 (by decide) ?_
  obtain ⟨fs1, hv, hlen, h⟩ := h
  refine x_put hX hW hv hlen i_Ro t_Ro t_Ro_ok n_Ro rfl (by decide) kw_30 rfl rfl rfl rfl d_Ro_clear_2 (fun f2 H locs ef hW => ?_)
  replace h := h _ ef
  clear ef
  exact x_vret hX hW h d_Ro_clear_5
/-! MailParts$Row.get(I)I -/
def w_Ro_get_31 (post : Int32 → xhp → Prop) (s0 : Int32) (f : xhp) : Prop :=
  post s0 f
set_option maxHeartbeats 4000000 in
set_option maxRecDepth 100000 in
theorem s_Ro_get_31 {post : Int32 → xhp → Prop} (hin : meth.name = "get") (hX : xX p R s m args meth c G (xA f0 sz) b_Ro_get 2 "MailParts$Row" (some .int) 0 0 0) {s0 : Int32} {f : xhp} {H : Heap} {locs : List Loc} {ls : Array Slot} (hl : lv_has ls 2 []) (hW : xW G (xA f0 sz) s f H locs) (h : w_Ro_get_31 post s0 f) : W p l e R s m args below meth c H locs 0 0 (MQ below (va_Qi post (xAt G f0 sz) (xA f0 sz)) args s 0 0 (xA f0 sz)) (F0 m 31 ls [.int s0]) := by
  have hx := hX.1
  have hb := hX.2.1
  exact x_iret hX hW h d_Ro_get_31
def w_Ro_get_30 (post : Int32 → xhp → Prop) (f : xhp) : Prop :=
  w_Ro_get_31 post (-1) f
set_option maxHeartbeats 4000000 in
set_option maxRecDepth 100000 in
theorem s_Ro_get_30 {post : Int32 → xhp → Prop} (hin : meth.name = "get") (hX : xX p R s m args meth c G (xA f0 sz) b_Ro_get 2 "MailParts$Row" (some .int) 0 0 0)  {f : xhp} {H : Heap} {locs : List Loc} {ls : Array Slot} (hl : lv_has ls 2 []) (hW : xW G (xA f0 sz) s f H locs) (h : w_Ro_get_30 post  f) : W p l e R s m args below meth c H locs 0 0 (MQ below (va_Qi post (xAt G f0 sz) (xA f0 sz)) args s 0 0 (xA f0 sz)) (F0 m 30 ls []) := by
  have hx := hX.1
  have hb := hX.2.1
  refine lv_iconst (v := (-1)) hx hb d_Ro_get_30 (by decide) ?_
  exact s_Ro_get_31 hin hX (lv_sub hl [] rfl) hW h
def w_Ro_get (post : Int32 → xhp → Prop) (p0 : Nat) (p1 : Int32) (f : xhp) : Prop :=
  ((p1 < 0 →
    w_Ro_get_30 post f) ∧
  (¬ p1 < 0 →
    ∃ v1 : Int32, xV f p0 2 1 (.int v1) ∧
    ((v1 ≤ p1 →
      w_Ro_get_30 post f) ∧
    (¬ v1 ≤ p1 →
      ∃ a2 : Nat, xV f p0 2 0 (.ref a2) ∧
      ∃ (t6 n3 : Nat) (b4 : xbd), xB f a2 t6 n3 b4 ∧ t6 < xnT ∧
      (((nI n3) ≤ p1 →
        w_Ro_get_30 post f) ∧
      (¬ (nI n3) ≤ p1 →
        ∃ a7 : Nat, xV f p0 2 0 (.ref a7) ∧
        ∃ (n8 : Nat) (g9 : Nat → Int32), xB f a7 0 n8 (xbI g9) ∧ vp_in p1 n8 ∧
        w_Ro_get_31 post (g9 p1.toNatClampNeg) f))))))
set_option maxHeartbeats 4000000 in
set_option maxRecDepth 100000 in
theorem c_Ro_get {l : Launch} {G : xG} {post : Int32 → xhp → Prop} {p0 : Nat} {p1 : Int32} {f : xhp} (h : w_Ro_get post p0 p1 f) : xMi l G y_Ro_get b_Ro_get 2 (some .int) 0 0 0 [.ref p0, .int p1] f post := by
  refine x_met (by decide) (Nat.le_of_ble_eq_true rfl) ?_
  intro sz p e s m below meth c ls hin hX hl hW
  have hl : lv_has ls 2 [(0, .ref p0), (1, .int p1)] := hl
  have hx := hX.1
  have hb := hX.2.1
  refine lv_iload_n hx hb d_Ro_get_0 rfl (lv_at hl 1 rfl) ?_
  refine lv_if_lt (tgt := 30) hx hb d_Ro_get_1 (by decide) (fun qc => ?_) (fun qc => ?_)
  · replace h := h.1 qc
    exact s_Ro_get_30 hin hX (lv_sub hl [] rfl) hW h
  · replace h := h.2 qc
    refine lv_iload_n hx hb d_Ro_get_4 rfl (lv_at hl 1 rfl) ?_
    refine lv_aload_n hx hb d_Ro_get_5 rfl (lv_at hl 0 rfl) ?_
    obtain ⟨v1, hv, h⟩ := h
    refine x_get hX hW hv i_Ro rfl (by decide) kw_30 rfl d_Ro_get_6 ?_
    refine lv_icmp_ge (tgt := 30) hx hb d_Ro_get_9 (by decide) (fun qc => ?_) (fun qc => ?_)
    · replace h := h.1 qc
      exact s_Ro_get_30 hin hX (lv_sub hl [] rfl) hW h
    · replace h := h.2 qc
      refine lv_iload_n hx hb d_Ro_get_12 rfl (lv_at hl 1 rfl) ?_
      refine lv_aload_n hx hb d_Ro_get_13 rfl (lv_at hl 0 rfl) ?_
      obtain ⟨a2, hv, h⟩ := h
      refine x_get hX hW hv i_Ro rfl (by decide) kw_29 rfl d_Ro_get_14 ?_
      obtain ⟨t6, n3, b4, hv, ht, h⟩ := h
      refine x_alen hX hW hv ht d_Ro_get_17 ?_
      refine lv_icmp_ge (tgt := 30) hx hb d_Ro_get_18 (by decide) (fun qc => ?_) (fun qc => ?_)
      · replace h := h.1 qc
        exact s_Ro_get_30 hin hX (lv_sub hl [] rfl) hW h
      · replace h := h.2 qc
        refine lv_aload_n hx hb d_Ro_get_21 rfl (lv_at hl 0 rfl) ?_
        obtain ⟨a7, hv, h⟩ := h
        refine x_get hX hW hv i_Ro rfl (by decide) kw_29 rfl d_Ro_get_22 ?_
        refine lv_iload_n hx hb d_Ro_get_25 rfl (lv_at hl 1 rfl) ?_
        obtain ⟨n8, g9, hv, hi, h⟩ := h
        refine x_iald hX hW hv hi d_Ro_get_26 ?_
        refine lv_goto (tgt := 31) hx hb d_Ro_get_27 (by decide) ?_
        exact s_Ro_get_31 hin hX (lv_sub hl [] rfl) hW h
/-! MailParts$Row.set(II)V -/
def w_Ro_set_28 (post : xhp → Prop) (f : xhp) : Prop :=
  post f
set_option maxHeartbeats 4000000 in
set_option maxRecDepth 100000 in
theorem s_Ro_set_28 {post : xhp → Prop} (hin : meth.name = "set") (hX : xX p R s m args meth c G (xA f0 sz) b_Ro_set 3 "MailParts$Row" none 0 0 0)  {f : xhp} {H : Heap} {locs : List Loc} {ls : Array Slot} (hl : lv_has ls 3 []) (hW : xW G (xA f0 sz) s f H locs) (h : w_Ro_set_28 post  f) : W p l e R s m args below meth c H locs 0 0 (MQ below (va_Qv post (xAt G f0 sz) (xA f0 sz)) args s 0 0 (xA f0 sz)) (F0 m 28 ls []) := by
  have hx := hX.1
  have hb := hX.2.1
  exact x_vret hX hW h d_Ro_set_28
def w_Ro_set (post : xhp → Prop) (p0 : Nat) (p1 : Int32) (p2 : Int32) (f : xhp) : Prop :=
  ((p1 < 0 →
    w_Ro_set_28 post f) ∧
  (¬ p1 < 0 →
    ∃ v1 : Int32, xV f p0 2 1 (.int v1) ∧
    ((v1 ≤ p1 →
      w_Ro_set_28 post f) ∧
    (¬ v1 ≤ p1 →
      ∃ a2 : Nat, xV f p0 2 0 (.ref a2) ∧
      ∃ (t6 n3 : Nat) (b4 : xbd), xB f a2 t6 n3 b4 ∧ t6 < xnT ∧
      (((nI n3) ≤ p1 →
        w_Ro_set_28 post f) ∧
      (¬ (nI n3) ≤ p1 →
        ∃ a7 : Nat, xV f p0 2 0 (.ref a7) ∧
        ∃ (n8 : Nat) (g9 : Nat → Int32), xB f a7 0 n8 (xbI g9) ∧ vp_in p1 n8 ∧ ∀ f10 : xhp, f10 = xup f a7 (.inl (0, n8, xbI (upd g9 p1.toNatClampNeg p2))) →
        w_Ro_set_28 post f10))))))
set_option maxHeartbeats 4000000 in
set_option maxRecDepth 100000 in
theorem c_Ro_set {l : Launch} {G : xG} {post : xhp → Prop} {p0 : Nat} {p1 : Int32} {p2 : Int32} {f : xhp} (h : w_Ro_set post p0 p1 p2 f) : xMv l G y_Ro_set b_Ro_set 3 none 0 0 0 [.ref p0, .int p1, .int p2] f post := by
  refine x_met (by decide) (Nat.le_of_ble_eq_true rfl) ?_
  intro sz p e s m below meth c ls hin hX hl hW
  have hl : lv_has ls 3 [(0, .ref p0), (1, .int p1), (2, .int p2)] := hl
  have hx := hX.1
  have hb := hX.2.1
  refine lv_iload_n hx hb d_Ro_set_0 rfl (lv_at hl 1 rfl) ?_
  refine lv_if_lt (tgt := 28) hx hb d_Ro_set_1 (by decide) (fun qc => ?_) (fun qc => ?_)
  · replace h := h.1 qc
    exact s_Ro_set_28 hin hX (lv_sub hl [] rfl) hW h
  · replace h := h.2 qc
    refine lv_iload_n hx hb d_Ro_set_4 rfl (lv_at hl 1 rfl) ?_
    refine lv_aload_n hx hb d_Ro_set_5 rfl (lv_at hl 0 rfl) ?_
    obtain ⟨v1, hv, h⟩ := h
    refine x_get hX hW hv i_Ro rfl (by decide) kw_30 rfl d_Ro_set_6 ?_
    refine lv_icmp_ge (tgt := 28) hx hb d_Ro_set_9 (by decide) (fun qc => ?_) (fun qc => ?_)
    · replace h := h.1 qc
      exact s_Ro_set_28 hin hX (lv_sub hl [] rfl) hW h
    · replace h := h.2 qc
      refine lv_iload_n hx hb d_Ro_set_12 rfl (lv_at hl 1 rfl) ?_
      refine lv_aload_n hx hb d_Ro_set_13 rfl (lv_at hl 0 rfl) ?_
      obtain ⟨a2, hv, h⟩ := h
      refine x_get hX hW hv i_Ro rfl (by decide) kw_29 rfl d_Ro_set_14 ?_
      obtain ⟨t6, n3, b4, hv, ht, h⟩ := h
      refine x_alen hX hW hv ht d_Ro_set_17 ?_
      refine lv_icmp_ge (tgt := 28) hx hb d_Ro_set_18 (by decide) (fun qc => ?_) (fun qc => ?_)
      · replace h := h.1 qc
        exact s_Ro_set_28 hin hX (lv_sub hl [] rfl) hW h
      · replace h := h.2 qc
        refine lv_aload_n hx hb d_Ro_set_21 rfl (lv_at hl 0 rfl) ?_
        obtain ⟨a7, hv, h⟩ := h
        refine x_get hX hW hv i_Ro rfl (by decide) kw_29 rfl d_Ro_set_22 ?_
        refine lv_iload_n hx hb d_Ro_set_25 rfl (lv_at hl 1 rfl) ?_
        refine lv_iload_n hx hb d_Ro_set_26 rfl (lv_at hl 2 rfl) ?_
        obtain ⟨n8, g9, hv, hi, h⟩ := h
        refine x_iast hX hW hv hi d_Ro_set_27 (fun f10 H locs ef hW => ?_)
        replace h := h _ ef
        clear ef
        exact s_Ro_set_28 hin hX (lv_sub hl [] rfl) hW h
/-! MailParts$Row.addRange(LMailParts$Row;II)V -/
def w_Ro_addRange_3 (post : xhp → Prop) : Nat → Nat → Nat → Int32 → Int32 → xhp → Prop
  | 0, _, _, _, _, _ => False
  | n + 1, p0, p1, p3, p4, f =>
    ((p3 ≤ p4 →
      post f) ∧
    (¬ p3 ≤ p4 →
      xO f p1 2 ∧
      w_Ro_get (fun r2 f1 =>
        xO f1 p0 2 ∧
        w_Ro_add (fun f3 =>
          w_Ro_addRange_3 post n p0 p1 p3 (p4 + 1) f3) p0 r2 f1) p1 p4 f))
set_option maxHeartbeats 4000000 in
set_option maxRecDepth 100000 in
theorem s_Ro_addRange_3 {post : xhp → Prop} (hin : meth.name = "addRange") (hX : xX p R s m args meth c G (xA f0 sz) b_Ro_addRange 5 "MailParts$Row" none 1 0 0) : ∀ (n : Nat) {p0 : Nat} {p1 : Nat} {p3 : Int32} {p4 : Int32} {f : xhp} {H : Heap} {locs : List Loc} {ls : Array Slot}, lv_has ls 5 [(0, .ref p0), (1, .ref p1), (3, .int p3), (4, .int p4)] → xW G (xA f0 sz) s f H locs → w_Ro_addRange_3 post n p0 p1 p3 p4 f → W p l e R s m args below meth c H locs 0 0 (MQ below (va_Qv post (xAt G f0 sz) (xA f0 sz)) args s 0 0 (xA f0 sz)) (F0 m 3 ls []) := by
  have hx := hX.1
  have hb := hX.2.1
  intro n
  induction n with
  | zero => intro p0 p1 p3 p4 f H locs ls hl hW h; exact h.elim
  | succ n ih =>
    intro p0 p1 p3 p4 f H locs ls hl hW h
    refine lv_iload hx hb d_Ro_addRange_3 (lv_at hl 3 rfl) ?_
    refine lv_iload_n hx hb d_Ro_addRange_5 rfl (lv_at hl 2 rfl) ?_
    refine lv_icmp_ge (tgt := 25) hx hb d_Ro_addRange_6 (by decide) (fun qc => ?_) (fun qc => ?_)
    · replace h := h.1 qc
      exact x_vret hX hW h d_Ro_addRange_25
    · replace h := h.2 qc
      refine lv_aload_n hx hb d_Ro_addRange_9 rfl (lv_at hl 0 rfl) ?_
      refine lv_aload_n hx hb d_Ro_addRange_10 rfl (lv_at hl 1 rfl) ?_
      refine lv_iload hx hb d_Ro_addRange_11 (lv_at hl 3 rfl) ?_
      obtain ⟨ho, h⟩ := h
      refine x_calli hX hW (x_runV (rest := [.ref p0]) hX hW (c_Ro_get h _) ho rfl kw_288 kw_271 kw_272 kw_2 kw_273 yk_Ro_get (by decide) (by decide) rfl hl.1 rfl (Nat.le_of_ble_eq_true rfl) d_Ro_addRange_13 ⟨Nat.zero_le _, Nat.zero_le _⟩) (fun r2 f1 H locs h hW => ?_)
      obtain ⟨ho, h⟩ := h
      refine x_callv hX hW (x_runV (rest := []) hX hW (c_Ro_add h _) ho rfl kw_137 kw_138 kw_139 kw_2 kw_140 yk_Ro_add (by decide) (by decide) rfl hl.1 rfl (Nat.le_of_ble_eq_true rfl) d_Ro_addRange_16 ⟨Nat.zero_le _, Nat.zero_le _⟩) (fun f3 H locs h hW => ?_)
      refine lv_iinc (v := p4 + 1) (lv' := [(4, .int (p4 + 1)), (0, .ref p0), (1, .ref p1), (3, .int p3)]) hx hb d_Ro_addRange_19 hl (k := 3) rfl rfl (by decide) rfl (fun ls hl => ?_)
      refine lv_goto (tgt := 3) hx hb d_Ro_addRange_22 (by decide) ?_
      exact ih (lv_sub hl [1, 2, 3, 0] rfl) hW h
def w_Ro_addRange (post : xhp → Prop) (p0 : Nat) (p1 : Nat) (p2 : Int32) (p3 : Int32) (f : xhp) : Prop :=
  ∃ n : Nat, w_Ro_addRange_3 post n p0 p1 p3 p2 f
set_option maxHeartbeats 4000000 in
set_option maxRecDepth 100000 in
theorem c_Ro_addRange {l : Launch} {G : xG} {post : xhp → Prop} {p0 : Nat} {p1 : Nat} {p2 : Int32} {p3 : Int32} {f : xhp} (h : w_Ro_addRange post p0 p1 p2 p3 f) : xMv l G y_Ro_addRange b_Ro_addRange 5 none 1 0 0 [.ref p0, .ref p1, .int p2, .int p3] f post := by
  refine x_met (by decide) (Nat.le_of_ble_eq_true rfl) ?_
  intro sz p e s m below meth c ls hin hX hl hW
  have hl : lv_has ls 5 [(0, .ref p0), (1, .ref p1), (2, .int p2), (3, .int p3)] := hl
  have hx := hX.1
  have hb := hX.2.1
  refine lv_iload_n hx hb d_Ro_addRange_0 rfl (lv_at hl 2 rfl) ?_
  refine lv_istore (lv' := [(4, .int p2), (0, .ref p0), (1, .ref p1), (2, .int p2), (3, .int p3)]) hx hb d_Ro_addRange_1 hl (by decide) rfl (fun ls hl => ?_)
  obtain ⟨n, h⟩ := h
  exact s_Ro_addRange_3 hin hX n (lv_sub hl [1, 2, 4, 0] rfl) hW h
/-! MailParts$Row.hasName(ILMailParts$Row;)Z -/
def w_Ro_hasName_2 (post : Int32 → xhp → Prop) : Nat → Nat → Int32 → Nat → Int32 → xhp → Prop
  | 0, _, _, _, _, _ => False
  | n + 1, p0, p1, p2, p3, f =>
    ∃ v1 : Int32, xV f p2 2 1 (.int v1) ∧
    ((v1 ≤ p3 →
      xz 1 ∧ post 1 f) ∧
    (¬ v1 ≤ p3 →
      xO f p0 2 ∧
      w_Ro_get (fun r3 f2 =>
        w_Mp_small (fun r5 f4 =>
          xO f4 p2 2 ∧
          w_Ro_get (fun r7 f6 =>
            w_Mp_small (fun r9 f8 =>
              ((r5 = r9 →
                w_Ro_hasName_2 post n p0 p1 p2 (p3 + 1) f8) ∧
              (¬ r5 = r9 →
                xz 0 ∧ post 0 f8))) r7 f6) p2 p3 f4) r3 f2) p0 (p1 + p3) f))
set_option maxHeartbeats 4000000 in
set_option maxRecDepth 100000 in
theorem s_Ro_hasName_2 {post : Int32 → xhp → Prop} (hin : meth.name = "hasName") (hX : xX p R s m args meth c G (xA f0 sz) b_Ro_hasName 4 "MailParts$Row" (some .boolean) 1 0 0) : ∀ (n : Nat) {p0 : Nat} {p1 : Int32} {p2 : Nat} {p3 : Int32} {f : xhp} {H : Heap} {locs : List Loc} {ls : Array Slot}, lv_has ls 4 [(0, .ref p0), (1, .int p1), (2, .ref p2), (3, .int p3)] → xW G (xA f0 sz) s f H locs → w_Ro_hasName_2 post n p0 p1 p2 p3 f → W p l e R s m args below meth c H locs 0 0 (MQ below (va_Qi post (xAt G f0 sz) (xA f0 sz)) args s 0 0 (xA f0 sz)) (F0 m 2 ls []) := by
  have hx := hX.1
  have hb := hX.2.1
  intro n
  induction n with
  | zero => intro p0 p1 p2 p3 f H locs ls hl hW h; exact h.elim
  | succ n ih =>
    intro p0 p1 p2 p3 f H locs ls hl hW h
    refine lv_iload_n hx hb d_Ro_hasName_2 rfl (lv_at hl 3 rfl) ?_
    refine lv_aload_n hx hb d_Ro_hasName_3 rfl (lv_at hl 2 rfl) ?_
    obtain ⟨v1, hv, h⟩ := h
    refine x_get hX hW hv i_Ro rfl (by decide) kw_30 rfl d_Ro_hasName_4 ?_
    refine lv_icmp_ge (tgt := 39) hx hb d_Ro_hasName_7 (by decide) (fun qc => ?_) (fun qc => ?_)
    · replace h := h.1 qc
      refine lv_iconst (v := 1) hx hb d_Ro_hasName_39 (by decide) ?_
      exact x_zret hX hW h.1 h.2 d_Ro_hasName_40
    · replace h := h.2 qc
      refine lv_aload_n hx hb d_Ro_hasName_10 rfl (lv_at hl 0 rfl) ?_
      refine lv_iload_n hx hb d_Ro_hasName_11 rfl (lv_at hl 1 rfl) ?_
      refine lv_iload_n hx hb d_Ro_hasName_12 rfl (lv_at hl 3 rfl) ?_
      refine lv_iadd hx hb d_Ro_hasName_13 ?_
      obtain ⟨ho, h⟩ := h
      refine x_calli hX hW (x_runV (rest := []) hX hW (c_Ro_get h _) ho rfl kw_288 kw_271 kw_272 kw_2 kw_273 yk_Ro_get (by decide) (by decide) rfl hl.1 rfl (Nat.le_of_ble_eq_true rfl) d_Ro_hasName_14 ⟨Nat.zero_le _, Nat.zero_le _⟩) (fun r3 f2 H locs h hW => ?_)
      refine x_calli hX hW (x_runSN (rest := []) hX hW (c_Mp_small h _) kw_352 kw_353 kw_1 kw_354 yk_Mp_small (by decide) (by decide) rfl hl.1 rfl (Nat.le_of_ble_eq_true rfl) d_Ro_hasName_17 ⟨Nat.zero_le _, Nat.zero_le _⟩) (fun r5 f4 H locs h hW => ?_)
      refine lv_aload_n hx hb d_Ro_hasName_20 rfl (lv_at hl 2 rfl) ?_
      refine lv_iload_n hx hb d_Ro_hasName_21 rfl (lv_at hl 3 rfl) ?_
      obtain ⟨ho, h⟩ := h
      refine x_calli hX hW (x_runV (rest := [.int r5]) hX hW (c_Ro_get h _) ho rfl kw_288 kw_271 kw_272 kw_2 kw_273 yk_Ro_get (by decide) (by decide) rfl hl.1 rfl (Nat.le_of_ble_eq_true rfl) d_Ro_hasName_22 ⟨Nat.zero_le _, Nat.zero_le _⟩) (fun r7 f6 H locs h hW => ?_)
      refine x_calli hX hW (x_runSN (rest := [.int r5]) hX hW (c_Mp_small h _) kw_352 kw_353 kw_1 kw_354 yk_Mp_small (by decide) (by decide) rfl hl.1 rfl (Nat.le_of_ble_eq_true rfl) d_Ro_hasName_25 ⟨Nat.zero_le _, Nat.zero_le _⟩) (fun r9 f8 H locs h hW => ?_)
      refine lv_icmp_eq (tgt := 33) hx hb d_Ro_hasName_28 (by decide) (fun qc => ?_) (fun qc => ?_)
      · replace h := h.1 qc
        refine lv_iinc (v := p3 + 1) (lv' := [(3, .int (p3 + 1)), (0, .ref p0), (1, .int p1), (2, .ref p2)]) hx hb d_Ro_hasName_33 hl (k := 3) rfl rfl (by decide) rfl (fun ls hl => ?_)
        refine lv_goto (tgt := 2) hx hb d_Ro_hasName_36 (by decide) ?_
        exact ih (lv_sub hl [1, 2, 3, 0] rfl) hW h
      · replace h := h.2 qc
        refine lv_iconst (v := 0) hx hb d_Ro_hasName_31 (by decide) ?_
        exact x_zret hX hW h.1 h.2 d_Ro_hasName_32
def w_Ro_hasName (post : Int32 → xhp → Prop) (p0 : Nat) (p1 : Int32) (p2 : Nat) (f : xhp) : Prop :=
  ∃ n : Nat, w_Ro_hasName_2 post n p0 p1 p2 0 f
set_option maxHeartbeats 4000000 in
set_option maxRecDepth 100000 in
theorem c_Ro_hasName {l : Launch} {G : xG} {post : Int32 → xhp → Prop} {p0 : Nat} {p1 : Int32} {p2 : Nat} {f : xhp} (h : w_Ro_hasName post p0 p1 p2 f) : xMi l G y_Ro_hasName b_Ro_hasName 4 (some .boolean) 1 0 0 [.ref p0, .int p1, .ref p2] f post := by
  refine x_met (by decide) (Nat.le_of_ble_eq_true rfl) ?_
  intro sz p e s m below meth c ls hin hX hl hW
  have hl : lv_has ls 4 [(0, .ref p0), (1, .int p1), (2, .ref p2)] := hl
  have hx := hX.1
  have hb := hX.2.1
  refine lv_iconst (v := 0) hx hb d_Ro_hasName_0 (by decide) ?_
  refine lv_istore_n (lv' := [(3, .int 0), (0, .ref p0), (1, .int p1), (2, .ref p2)]) hx hb d_Ro_hasName_1 rfl hl (by decide) rfl (fun ls hl => ?_)
  obtain ⟨n, h⟩ := h
  exact s_Ro_hasName_2 hin hX n (lv_sub hl [1, 2, 3, 0] rfl) hW h
/-! MailParts$Row.shorten(I)V -/
def w_Ro_shorten (post : xhp → Prop) (p0 : Nat) (p1 : Int32) (f : xhp) : Prop :=
  ∃ v1 : Int32, xV f p0 2 1 (.int v1) ∧
  ∃ fs2 : List Value, f p0 = some (.inr (2, fs2)) ∧ 1 < fs2.length ∧ ∀ f3 : xhp, f3 = xup f p0 (.inr (2, fs2.set 1 (.int (if 0 < (if p1 < v1 then p1 else v1) then if p1 < v1 then p1 else v1 else 0)))) →
  post f3
set_option maxHeartbeats 4000000 in
set_option maxRecDepth 100000 in
theorem c_Ro_shorten {l : Launch} {G : xG} {post : xhp → Prop} {p0 : Nat} {p1 : Int32} {f : xhp} (h : w_Ro_shorten post p0 p1 f) : xMv l G y_Ro_shorten b_Ro_shorten 2 none 1 0 0 [.ref p0, .int p1] f post := by
  refine x_met (by decide) (Nat.le_of_ble_eq_true rfl) ?_
  intro sz p e s m below meth c ls hin hX hl hW
  have hl : lv_has ls 2 [(0, .ref p0), (1, .int p1)] := hl
  have hx := hX.1
  have hb := hX.2.1
  refine lv_aload_n hx hb d_Ro_shorten_0 rfl (lv_at hl 0 rfl) ?_
  refine lv_iconst (v := 0) hx hb d_Ro_shorten_1 (by decide) ?_
  refine lv_aload_n hx hb d_Ro_shorten_2 rfl (lv_at hl 0 rfl) ?_
  obtain ⟨v1, hv, h⟩ := h
  refine x_get hX hW hv i_Ro rfl (by decide) kw_30 rfl d_Ro_shorten_3 ?_
  refine lv_iload_n hx hb d_Ro_shorten_6 rfl (lv_at hl 1 rfl) ?_
  refine x_min hX (by decide) kw_389 hl.1 (Nat.le_of_ble_eq_true rfl) ⟨Nat.zero_le _, Nat.zero_le _⟩ d_Ro_shorten_7 ?_
  refine x_max hX (by decide) kw_26 hl.1 (Nat.le_of_ble_eq_true rfl) ⟨Nat.zero_le _, Nat.zero_le _⟩ d_Ro_shorten_10 ?_
  obtain ⟨fs2, hv, hlen, h⟩ := h
  refine x_put hX hW hv hlen i_Ro t_Ro t_Ro_ok n_Ro rfl (by decide) kw_30 rfl rfl rfl rfl d_Ro_shorten_13 (fun f3 H locs ef hW => ?_)
  replace h := h _ ef
  clear ef
  exact x_vret hX hW h d_Ro_shorten_16
end
end
