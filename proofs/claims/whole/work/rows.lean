section
-- ===== PART A: goes FIRST, ahead of the names: the tables' words, and 'selects' of the private methods out of them =====
/-- a private method of a class that the tables say can be made, by its rows of tables_1 -/
def lw_okq (q : MethodName × Nat) : Prop := (q.1.cls ≠ "java/lang/invoke/MethodHandle" ∧ q.1.cls ≠ "java/lang/invoke/VarHandle") ∧ Cond.instantiable q.1.cls q.2 ∈ tables_1 ∧ Cond.privateMethod q.1 ∈ tables_1 ∧ Cond.instanceMethod q.1 ∈ tables_1
theorem lw_p0 : lw_okq (⟨"MailParts", "addWord", "(I)V"⟩, 16) := ⟨⟨by decide +kernel, by decide +kernel⟩, List.mem_of_getElem? (i := 13) (by decide +kernel), List.mem_of_getElem? (i := 262) (by decide +kernel), List.mem_of_getElem? (i := 263) (by decide +kernel)⟩
theorem lw_p1 : lw_okq (⟨"MailParts$Mail", "addLine", "(II)V"⟩, 4) := ⟨⟨by decide +kernel, by decide +kernel⟩, List.mem_of_getElem? (i := 41) (by decide +kernel), List.mem_of_getElem? (i := 291) (by decide +kernel), List.mem_of_getElem? (i := 292) (by decide +kernel)⟩
theorem lw_p2 : lw_okq (⟨"MailParts", "openEntity", "(IIII)V"⟩, 16) := ⟨⟨by decide +kernel, by decide +kernel⟩, List.mem_of_getElem? (i := 13) (by decide +kernel), List.mem_of_getElem? (i := 295) (by decide +kernel), List.mem_of_getElem? (i := 296) (by decide +kernel)⟩
theorem lw_p3 : lw_okq (⟨"MailParts", "find", "(I)LMailParts$Entity;"⟩, 16) := ⟨⟨by decide +kernel, by decide +kernel⟩, List.mem_of_getElem? (i := 13) (by decide +kernel), List.mem_of_getElem? (i := 329) (by decide +kernel), List.mem_of_getElem? (i := 330) (by decide +kernel)⟩
theorem lw_p4 : lw_okq (⟨"MailParts", "describe", "(LMailParts$Entity;)V"⟩, 16) := ⟨⟨by decide +kernel, by decide +kernel⟩, List.mem_of_getElem? (i := 13) (by decide +kernel), List.mem_of_getElem? (i := 333) (by decide +kernel), List.mem_of_getElem? (i := 334) (by decide +kernel)⟩
theorem lw_p5 : lw_okq (⟨"MailParts", "loadType", "(LMailParts$Entity;)V"⟩, 16) := ⟨⟨by decide +kernel, by decide +kernel⟩, List.mem_of_getElem? (i := 13) (by decide +kernel), List.mem_of_getElem? (i := 337) (by decide +kernel), List.mem_of_getElem? (i := 338) (by decide +kernel)⟩
theorem lw_p6 : lw_okq (⟨"MailParts", "loadField", "(LMailParts$Entity;LMailParts$Row;)Z"⟩, 16) := ⟨⟨by decide +kernel, by decide +kernel⟩, List.mem_of_getElem? (i := 13) (by decide +kernel), List.mem_of_getElem? (i := 341) (by decide +kernel), List.mem_of_getElem? (i := 342) (by decide +kernel)⟩
theorem lw_p7 : lw_okq (⟨"MailParts$Value", "find", "(III)I"⟩, 1) := ⟨⟨by decide +kernel, by decide +kernel⟩, List.mem_of_getElem? (i := 64) (by decide +kernel), List.mem_of_getElem? (i := 364) (by decide +kernel), List.mem_of_getElem? (i := 365) (by decide +kernel)⟩
theorem lw_p8 : lw_okq (⟨"MailParts$Value", "keep", "(II)V"⟩, 1) := ⟨⟨by decide +kernel, by decide +kernel⟩, List.mem_of_getElem? (i := 64) (by decide +kernel), List.mem_of_getElem? (i := 369) (by decide +kernel), List.mem_of_getElem? (i := 370) (by decide +kernel)⟩
theorem lw_p9 : lw_okq (⟨"MailParts$Value", "behindBlanks", "(II)I"⟩, 1) := ⟨⟨by decide +kernel, by decide +kernel⟩, List.mem_of_getElem? (i := 64) (by decide +kernel), List.mem_of_getElem? (i := 373) (by decide +kernel), List.mem_of_getElem? (i := 374) (by decide +kernel)⟩
theorem lw_p10 : lw_okq (⟨"MailParts$Value", "aheadOfBlanks", "(II)I"⟩, 1) := ⟨⟨by decide +kernel, by decide +kernel⟩, List.mem_of_getElem? (i := 64) (by decide +kernel), List.mem_of_getElem? (i := 378) (by decide +kernel), List.mem_of_getElem? (i := 379) (by decide +kernel)⟩
theorem lw_p11 : lw_okq (⟨"MailParts", "hasBoundary", "(LMailParts$Entity;)Z"⟩, 16) := ⟨⟨by decide +kernel, by decide +kernel⟩, List.mem_of_getElem? (i := 13) (by decide +kernel), List.mem_of_getElem? (i := 415) (by decide +kernel), List.mem_of_getElem? (i := 416) (by decide +kernel)⟩
theorem lw_p12 : lw_okq (⟨"MailParts$Value", "isNamed", "(IILMailParts$Row;)Z"⟩, 1) := ⟨⟨by decide +kernel, by decide +kernel⟩, List.mem_of_getElem? (i := 64) (by decide +kernel), List.mem_of_getElem? (i := 423) (by decide +kernel), List.mem_of_getElem? (i := 424) (by decide +kernel)⟩
theorem lw_p13 : lw_okq (⟨"MailParts$Value", "unquote", "()V"⟩, 1) := ⟨⟨by decide +kernel, by decide +kernel⟩, List.mem_of_getElem? (i := 64) (by decide +kernel), List.mem_of_getElem? (i := 428) (by decide +kernel), List.mem_of_getElem? (i := 429) (by decide +kernel)⟩
theorem lw_p14 : lw_okq (⟨"MailParts$Value", "closing", "()I"⟩, 1) := ⟨⟨by decide +kernel, by decide +kernel⟩, List.mem_of_getElem? (i := 64) (by decide +kernel), List.mem_of_getElem? (i := 432) (by decide +kernel), List.mem_of_getElem? (i := 433) (by decide +kernel)⟩
theorem lw_p15 : lw_okq (⟨"MailParts", "isOpenCoding", "(LMailParts$Entity;)Z"⟩, 16) := ⟨⟨by decide +kernel, by decide +kernel⟩, List.mem_of_getElem? (i := 13) (by decide +kernel), List.mem_of_getElem? (i := 438) (by decide +kernel), List.mem_of_getElem? (i := 439) (by decide +kernel)⟩
def lw_privs_1 : List (MethodName × Nat) := [(⟨"MailParts", "addWord", "(I)V"⟩, 16), (⟨"MailParts$Mail", "addLine", "(II)V"⟩, 4), (⟨"MailParts", "openEntity", "(IIII)V"⟩, 16), (⟨"MailParts", "find", "(I)LMailParts$Entity;"⟩, 16), (⟨"MailParts", "describe", "(LMailParts$Entity;)V"⟩, 16), (⟨"MailParts", "loadType", "(LMailParts$Entity;)V"⟩, 16), (⟨"MailParts", "loadField", "(LMailParts$Entity;LMailParts$Row;)Z"⟩, 16), (⟨"MailParts$Value", "find", "(III)I"⟩, 1), (⟨"MailParts$Value", "keep", "(II)V"⟩, 1), (⟨"MailParts$Value", "behindBlanks", "(II)I"⟩, 1), (⟨"MailParts$Value", "aheadOfBlanks", "(II)I"⟩, 1), (⟨"MailParts", "hasBoundary", "(LMailParts$Entity;)Z"⟩, 16), (⟨"MailParts$Value", "isNamed", "(IILMailParts$Row;)Z"⟩, 1), (⟨"MailParts$Value", "unquote", "()V"⟩, 1), (⟨"MailParts$Value", "closing", "()I"⟩, 1), (⟨"MailParts", "isOpenCoding", "(LMailParts$Entity;)Z"⟩, 16)]
theorem lw_r1 : ∀ q ∈ lw_privs_1, lw_okq q := List.forall_mem_cons.mpr ⟨lw_p0, List.forall_mem_cons.mpr ⟨lw_p1, List.forall_mem_cons.mpr ⟨lw_p2, List.forall_mem_cons.mpr ⟨lw_p3, List.forall_mem_cons.mpr ⟨lw_p4, List.forall_mem_cons.mpr ⟨lw_p5, List.forall_mem_cons.mpr ⟨lw_p6, List.forall_mem_cons.mpr ⟨lw_p7, List.forall_mem_cons.mpr ⟨lw_p8, List.forall_mem_cons.mpr ⟨lw_p9, List.forall_mem_cons.mpr ⟨lw_p10, List.forall_mem_cons.mpr ⟨lw_p11, List.forall_mem_cons.mpr ⟨lw_p12, List.forall_mem_cons.mpr ⟨lw_p13, List.forall_mem_cons.mpr ⟨lw_p14, List.forall_mem_cons.mpr ⟨lw_p15, fun _ h => absurd h List.not_mem_nil⟩⟩⟩⟩⟩⟩⟩⟩⟩⟩⟩⟩⟩⟩⟩⟩
theorem lw_p16 : lw_okq (⟨"MailParts", "openParts", "(LMailParts$Entity;II)V"⟩, 16) := ⟨⟨by decide +kernel, by decide +kernel⟩, List.mem_of_getElem? (i := 13) (by decide +kernel), List.mem_of_getElem? (i := 445) (by decide +kernel), List.mem_of_getElem? (i := 446) (by decide +kernel)⟩
theorem lw_p17 : lw_okq (⟨"MailParts$Mail", "hasDashes", "(II)Z"⟩, 4) := ⟨⟨by decide +kernel, by decide +kernel⟩, List.mem_of_getElem? (i := 41) (by decide +kernel), List.mem_of_getElem? (i := 453) (by decide +kernel), List.mem_of_getElem? (i := 454) (by decide +kernel)⟩
theorem lw_p18 : lw_okq (⟨"MailParts", "chooseTexts", "()V"⟩, 16) := ⟨⟨by decide +kernel, by decide +kernel⟩, List.mem_of_getElem? (i := 13) (by decide +kernel), List.mem_of_getElem? (i := 457) (by decide +kernel), List.mem_of_getElem? (i := 458) (by decide +kernel)⟩
theorem lw_p19 : lw_okq (⟨"MailParts", "listLeaves", "()V"⟩, 16) := ⟨⟨by decide +kernel, by decide +kernel⟩, List.mem_of_getElem? (i := 13) (by decide +kernel), List.mem_of_getElem? (i := 461) (by decide +kernel), List.mem_of_getElem? (i := 462) (by decide +kernel)⟩
theorem lw_p20 : lw_okq (⟨"MailParts", "countFields", "(LMailParts$Entity;)I"⟩, 16) := ⟨⟨by decide +kernel, by decide +kernel⟩, List.mem_of_getElem? (i := 13) (by decide +kernel), List.mem_of_getElem? (i := 470) (by decide +kernel), List.mem_of_getElem? (i := 471) (by decide +kernel)⟩
theorem lw_p21 : lw_okq (⟨"MailParts", "loadWord", "(II)Z"⟩, 16) := ⟨⟨by decide +kernel, by decide +kernel⟩, List.mem_of_getElem? (i := 13) (by decide +kernel), List.mem_of_getElem? (i := 479) (by decide +kernel), List.mem_of_getElem? (i := 480) (by decide +kernel)⟩
theorem lw_p22 : lw_okq (⟨"MailParts", "loadName", "(LMailParts$Entity;)V"⟩, 16) := ⟨⟨by decide +kernel, by decide +kernel⟩, List.mem_of_getElem? (i := 13) (by decide +kernel), List.mem_of_getElem? (i := 483) (by decide +kernel), List.mem_of_getElem? (i := 484) (by decide +kernel)⟩
theorem lw_p23 : lw_okq (⟨"MailParts", "answerOnTape", "(Z)I"⟩, 16) := ⟨⟨by decide +kernel, by decide +kernel⟩, List.mem_of_getElem? (i := 13) (by decide +kernel), List.mem_of_getElem? (i := 495) (by decide +kernel), List.mem_of_getElem? (i := 496) (by decide +kernel)⟩
theorem lw_p24 : lw_okq (⟨"MailPartsModel", "split", "()V"⟩, 57) := ⟨⟨by decide +kernel, by decide +kernel⟩, List.mem_of_getElem? (i := 524) (by decide +kernel), List.mem_of_getElem? (i := 715) (by decide +kernel), List.mem_of_getElem? (i := 716) (by decide +kernel)⟩
theorem lw_p25 : lw_okq (⟨"MailPartsModel", "build", "()V"⟩, 57) := ⟨⟨by decide +kernel, by decide +kernel⟩, List.mem_of_getElem? (i := 524) (by decide +kernel), List.mem_of_getElem? (i := 719) (by decide +kernel), List.mem_of_getElem? (i := 720) (by decide +kernel)⟩
theorem lw_p26 : lw_okq (⟨"MailPartsModel", "push", "(III)V"⟩, 57) := ⟨⟨by decide +kernel, by decide +kernel⟩, List.mem_of_getElem? (i := 524) (by decide +kernel), List.mem_of_getElem? (i := 723) (by decide +kernel), List.mem_of_getElem? (i := 724) (by decide +kernel)⟩
theorem lw_p27 : lw_okq (⟨"MailPartsModel", "look", "(I)V"⟩, 57) := ⟨⟨by decide +kernel, by decide +kernel⟩, List.mem_of_getElem? (i := 524) (by decide +kernel), List.mem_of_getElem? (i := 727) (by decide +kernel), List.mem_of_getElem? (i := 728) (by decide +kernel)⟩
theorem lw_p28 : lw_okq (⟨"MailPartsModel", "findHead", "(I)V"⟩, 57) := ⟨⟨by decide +kernel, by decide +kernel⟩, List.mem_of_getElem? (i := 524) (by decide +kernel), List.mem_of_getElem? (i := 731) (by decide +kernel), List.mem_of_getElem? (i := 732) (by decide +kernel)⟩
theorem lw_p29 : lw_okq (⟨"MailPartsModel", "colon", "(I)I"⟩, 57) := ⟨⟨by decide +kernel, by decide +kernel⟩, List.mem_of_getElem? (i := 524) (by decide +kernel), List.mem_of_getElem? (i := 735) (by decide +kernel), List.mem_of_getElem? (i := 736) (by decide +kernel)⟩
theorem lw_p30 : lw_okq (⟨"MailPartsModel", "isMulti", "(I)Z"⟩, 57) := ⟨⟨by decide +kernel, by decide +kernel⟩, List.mem_of_getElem? (i := 524) (by decide +kernel), List.mem_of_getElem? (i := 748) (by decide +kernel), List.mem_of_getElem? (i := 749) (by decide +kernel)⟩
theorem lw_p31 : lw_okq (⟨"MailPartsModel", "type", "(I)V"⟩, 57) := ⟨⟨by decide +kernel, by decide +kernel⟩, List.mem_of_getElem? (i := 524) (by decide +kernel), List.mem_of_getElem? (i := 752) (by decide +kernel), List.mem_of_getElem? (i := 753) (by decide +kernel)⟩
def lw_privs_2 : List (MethodName × Nat) := [(⟨"MailParts", "openParts", "(LMailParts$Entity;II)V"⟩, 16), (⟨"MailParts$Mail", "hasDashes", "(II)Z"⟩, 4), (⟨"MailParts", "chooseTexts", "()V"⟩, 16), (⟨"MailParts", "listLeaves", "()V"⟩, 16), (⟨"MailParts", "countFields", "(LMailParts$Entity;)I"⟩, 16), (⟨"MailParts", "loadWord", "(II)Z"⟩, 16), (⟨"MailParts", "loadName", "(LMailParts$Entity;)V"⟩, 16), (⟨"MailParts", "answerOnTape", "(Z)I"⟩, 16), (⟨"MailPartsModel", "split", "()V"⟩, 57), (⟨"MailPartsModel", "build", "()V"⟩, 57), (⟨"MailPartsModel", "push", "(III)V"⟩, 57), (⟨"MailPartsModel", "look", "(I)V"⟩, 57), (⟨"MailPartsModel", "findHead", "(I)V"⟩, 57), (⟨"MailPartsModel", "colon", "(I)I"⟩, 57), (⟨"MailPartsModel", "isMulti", "(I)Z"⟩, 57), (⟨"MailPartsModel", "type", "(I)V"⟩, 57)]
theorem lw_r2 : ∀ q ∈ lw_privs_2, lw_okq q := List.forall_mem_cons.mpr ⟨lw_p16, List.forall_mem_cons.mpr ⟨lw_p17, List.forall_mem_cons.mpr ⟨lw_p18, List.forall_mem_cons.mpr ⟨lw_p19, List.forall_mem_cons.mpr ⟨lw_p20, List.forall_mem_cons.mpr ⟨lw_p21, List.forall_mem_cons.mpr ⟨lw_p22, List.forall_mem_cons.mpr ⟨lw_p23, List.forall_mem_cons.mpr ⟨lw_p24, List.forall_mem_cons.mpr ⟨lw_p25, List.forall_mem_cons.mpr ⟨lw_p26, List.forall_mem_cons.mpr ⟨lw_p27, List.forall_mem_cons.mpr ⟨lw_p28, List.forall_mem_cons.mpr ⟨lw_p29, List.forall_mem_cons.mpr ⟨lw_p30, List.forall_mem_cons.mpr ⟨lw_p31, fun _ h => absurd h List.not_mem_nil⟩⟩⟩⟩⟩⟩⟩⟩⟩⟩⟩⟩⟩⟩⟩⟩
theorem lw_p32 : lw_okq (⟨"MailPartsModel", "firstItem", "(I[I)V"⟩, 57) := ⟨⟨by decide +kernel, by decide +kernel⟩, List.mem_of_getElem? (i := 524) (by decide +kernel), List.mem_of_getElem? (i := 756) (by decide +kernel), List.mem_of_getElem? (i := 757) (by decide +kernel)⟩
theorem lw_p33 : lw_okq (⟨"MailPartsModel", "nothing", "()V"⟩, 57) := ⟨⟨by decide +kernel, by decide +kernel⟩, List.mem_of_getElem? (i := 524) (by decide +kernel), List.mem_of_getElem? (i := 760) (by decide +kernel), List.mem_of_getElem? (i := 761) (by decide +kernel)⟩
theorem lw_p34 : lw_okq (⟨"MailPartsModel", "find", "(I[II)Z"⟩, 57) := ⟨⟨by decide +kernel, by decide +kernel⟩, List.mem_of_getElem? (i := 524) (by decide +kernel), List.mem_of_getElem? (i := 764) (by decide +kernel), List.mem_of_getElem? (i := 765) (by decide +kernel)⟩
theorem lw_p35 : lw_okq (⟨"MailPartsModel", "itemize", "()V"⟩, 57) := ⟨⟨by decide +kernel, by decide +kernel⟩, List.mem_of_getElem? (i := 524) (by decide +kernel), List.mem_of_getElem? (i := 771) (by decide +kernel), List.mem_of_getElem? (i := 772) (by decide +kernel)⟩
theorem lw_p36 : lw_okq (⟨"MailPartsModel", "over", "(II)I"⟩, 57) := ⟨⟨by decide +kernel, by decide +kernel⟩, List.mem_of_getElem? (i := 524) (by decide +kernel), List.mem_of_getElem? (i := 775) (by decide +kernel), List.mem_of_getElem? (i := 776) (by decide +kernel)⟩
theorem lw_p37 : lw_okq (⟨"MailPartsModel", "trim", "(II)V"⟩, 57) := ⟨⟨by decide +kernel, by decide +kernel⟩, List.mem_of_getElem? (i := 524) (by decide +kernel), List.mem_of_getElem? (i := 779) (by decide +kernel), List.mem_of_getElem? (i := 780) (by decide +kernel)⟩
theorem lw_p38 : lw_okq (⟨"MailPartsModel", "keep", "(IIZ)V"⟩, 57) := ⟨⟨by decide +kernel, by decide +kernel⟩, List.mem_of_getElem? (i := 524) (by decide +kernel), List.mem_of_getElem? (i := 783) (by decide +kernel), List.mem_of_getElem? (i := 784) (by decide +kernel)⟩
theorem lw_p39 : lw_okq (⟨"MailPartsModel", "isType", "()Z"⟩, 57) := ⟨⟨by decide +kernel, by decide +kernel⟩, List.mem_of_getElem? (i := 524) (by decide +kernel), List.mem_of_getElem? (i := 787) (by decide +kernel), List.mem_of_getElem? (i := 788) (by decide +kernel)⟩
theorem lw_p40 : lw_okq (⟨"MailPartsModel", "isGot", "([I)Z"⟩, 57) := ⟨⟨by decide +kernel, by decide +kernel⟩, List.mem_of_getElem? (i := 524) (by decide +kernel), List.mem_of_getElem? (i := 791) (by decide +kernel), List.mem_of_getElem? (i := 792) (by decide +kernel)⟩
theorem lw_p41 : lw_okq (⟨"MailPartsModel", "set", "([I)V"⟩, 57) := ⟨⟨by decide +kernel, by decide +kernel⟩, List.mem_of_getElem? (i := 524) (by decide +kernel), List.mem_of_getElem? (i := 795) (by decide +kernel), List.mem_of_getElem? (i := 796) (by decide +kernel)⟩
theorem lw_p42 : lw_okq (⟨"MailPartsModel", "begins", "([I)Z"⟩, 57) := ⟨⟨by decide +kernel, by decide +kernel⟩, List.mem_of_getElem? (i := 524) (by decide +kernel), List.mem_of_getElem? (i := 799) (by decide +kernel), List.mem_of_getElem? (i := 800) (by decide +kernel)⟩
theorem lw_p43 : lw_okq (⟨"MailPartsModel", "parameterOf", "([II)Z"⟩, 57) := ⟨⟨by decide +kernel, by decide +kernel⟩, List.mem_of_getElem? (i := 524) (by decide +kernel), List.mem_of_getElem? (i := 803) (by decide +kernel), List.mem_of_getElem? (i := 804) (by decide +kernel)⟩
theorem lw_p44 : lw_okq (⟨"MailPartsModel", "unquote", "()V"⟩, 57) := ⟨⟨by decide +kernel, by decide +kernel⟩, List.mem_of_getElem? (i := 524) (by decide +kernel), List.mem_of_getElem? (i := 807) (by decide +kernel), List.mem_of_getElem? (i := 808) (by decide +kernel)⟩
theorem lw_p45 : lw_okq (⟨"MailPartsModel", "findParts", "(I)V"⟩, 57) := ⟨⟨by decide +kernel, by decide +kernel⟩, List.mem_of_getElem? (i := 524) (by decide +kernel), List.mem_of_getElem? (i := 811) (by decide +kernel), List.mem_of_getElem? (i := 812) (by decide +kernel)⟩
theorem lw_p46 : lw_okq (⟨"MailPartsModel", "marked", "(I)I"⟩, 57) := ⟨⟨by decide +kernel, by decide +kernel⟩, List.mem_of_getElem? (i := 524) (by decide +kernel), List.mem_of_getElem? (i := 815) (by decide +kernel), List.mem_of_getElem? (i := 816) (by decide +kernel)⟩
theorem lw_p47 : lw_okq (⟨"MailPartsModel", "add", "(II)V"⟩, 57) := ⟨⟨by decide +kernel, by decide +kernel⟩, List.mem_of_getElem? (i := 524) (by decide +kernel), List.mem_of_getElem? (i := 819) (by decide +kernel), List.mem_of_getElem? (i := 820) (by decide +kernel)⟩
def lw_privs_3 : List (MethodName × Nat) := [(⟨"MailPartsModel", "firstItem", "(I[I)V"⟩, 57), (⟨"MailPartsModel", "nothing", "()V"⟩, 57), (⟨"MailPartsModel", "find", "(I[II)Z"⟩, 57), (⟨"MailPartsModel", "itemize", "()V"⟩, 57), (⟨"MailPartsModel", "over", "(II)I"⟩, 57), (⟨"MailPartsModel", "trim", "(II)V"⟩, 57), (⟨"MailPartsModel", "keep", "(IIZ)V"⟩, 57), (⟨"MailPartsModel", "isType", "()Z"⟩, 57), (⟨"MailPartsModel", "isGot", "([I)Z"⟩, 57), (⟨"MailPartsModel", "set", "([I)V"⟩, 57), (⟨"MailPartsModel", "begins", "([I)Z"⟩, 57), (⟨"MailPartsModel", "parameterOf", "([II)Z"⟩, 57), (⟨"MailPartsModel", "unquote", "()V"⟩, 57), (⟨"MailPartsModel", "findParts", "(I)V"⟩, 57), (⟨"MailPartsModel", "marked", "(I)I"⟩, 57), (⟨"MailPartsModel", "add", "(II)V"⟩, 57)]
theorem lw_r3 : ∀ q ∈ lw_privs_3, lw_okq q := List.forall_mem_cons.mpr ⟨lw_p32, List.forall_mem_cons.mpr ⟨lw_p33, List.forall_mem_cons.mpr ⟨lw_p34, List.forall_mem_cons.mpr ⟨lw_p35, List.forall_mem_cons.mpr ⟨lw_p36, List.forall_mem_cons.mpr ⟨lw_p37, List.forall_mem_cons.mpr ⟨lw_p38, List.forall_mem_cons.mpr ⟨lw_p39, List.forall_mem_cons.mpr ⟨lw_p40, List.forall_mem_cons.mpr ⟨lw_p41, List.forall_mem_cons.mpr ⟨lw_p42, List.forall_mem_cons.mpr ⟨lw_p43, List.forall_mem_cons.mpr ⟨lw_p44, List.forall_mem_cons.mpr ⟨lw_p45, List.forall_mem_cons.mpr ⟨lw_p46, List.forall_mem_cons.mpr ⟨lw_p47, fun _ h => absurd h List.not_mem_nil⟩⟩⟩⟩⟩⟩⟩⟩⟩⟩⟩⟩⟩⟩⟩⟩
theorem lw_p48 : lw_okq (⟨"MailPartsModel", "isEnclosed", "(I)Z"⟩, 57) := ⟨⟨by decide +kernel, by decide +kernel⟩, List.mem_of_getElem? (i := 524) (by decide +kernel), List.mem_of_getElem? (i := 823) (by decide +kernel), List.mem_of_getElem? (i := 824) (by decide +kernel)⟩
theorem lw_p49 : lw_okq (⟨"MailPartsModel", "findTexts", "()V"⟩, 57) := ⟨⟨by decide +kernel, by decide +kernel⟩, List.mem_of_getElem? (i := 524) (by decide +kernel), List.mem_of_getElem? (i := 827) (by decide +kernel), List.mem_of_getElem? (i := 828) (by decide +kernel)⟩
theorem lw_p50 : lw_okq (⟨"MailPartsModel", "isHung", "(I)Z"⟩, 57) := ⟨⟨by decide +kernel, by decide +kernel⟩, List.mem_of_getElem? (i := 524) (by decide +kernel), List.mem_of_getElem? (i := 831) (by decide +kernel), List.mem_of_getElem? (i := 832) (by decide +kernel)⟩
theorem lw_p51 : lw_okq (⟨"MailPartsModel", "alternative", "(I)J"⟩, 57) := ⟨⟨by decide +kernel, by decide +kernel⟩, List.mem_of_getElem? (i := 524) (by decide +kernel), List.mem_of_getElem? (i := 835) (by decide +kernel), List.mem_of_getElem? (i := 836) (by decide +kernel)⟩
theorem lw_p52 : lw_okq (⟨"MailPartsModel", "isThere", "(I)Z"⟩, 57) := ⟨⟨by decide +kernel, by decide +kernel⟩, List.mem_of_getElem? (i := 524) (by decide +kernel), List.mem_of_getElem? (i := 843) (by decide +kernel), List.mem_of_getElem? (i := 844) (by decide +kernel)⟩
theorem lw_p53 : lw_okq (⟨"MailPartsModel", "place", "(I)I"⟩, 57) := ⟨⟨by decide +kernel, by decide +kernel⟩, List.mem_of_getElem? (i := 524) (by decide +kernel), List.mem_of_getElem? (i := 847) (by decide +kernel), List.mem_of_getElem? (i := 848) (by decide +kernel)⟩
theorem lw_p54 : lw_okq (⟨"MailPartsModel", "children", "(I)I"⟩, 57) := ⟨⟨by decide +kernel, by decide +kernel⟩, List.mem_of_getElem? (i := 524) (by decide +kernel), List.mem_of_getElem? (i := 851) (by decide +kernel), List.mem_of_getElem? (i := 852) (by decide +kernel)⟩
theorem lw_p55 : lw_okq (⟨"MailPartsModel", "fields", "(I)I"⟩, 57) := ⟨⟨by decide +kernel, by decide +kernel⟩, List.mem_of_getElem? (i := 524) (by decide +kernel), List.mem_of_getElem? (i := 855) (by decide +kernel), List.mem_of_getElem? (i := 856) (by decide +kernel)⟩
theorem lw_p56 : lw_okq (⟨"MailPartsModel", "isAlike", "(II)Z"⟩, 57) := ⟨⟨by decide +kernel, by decide +kernel⟩, List.mem_of_getElem? (i := 524) (by decide +kernel), List.mem_of_getElem? (i := 859) (by decide +kernel), List.mem_of_getElem? (i := 860) (by decide +kernel)⟩
theorem lw_p57 : lw_okq (⟨"MailPartsModel", "tell", "(II)Z"⟩, 57) := ⟨⟨by decide +kernel, by decide +kernel⟩, List.mem_of_getElem? (i := 524) (by decide +kernel), List.mem_of_getElem? (i := 867) (by decide +kernel), List.mem_of_getElem? (i := 868) (by decide +kernel)⟩
theorem lw_p58 : lw_okq (⟨"MailPartsModel", "called", "(I)V"⟩, 57) := ⟨⟨by decide +kernel, by decide +kernel⟩, List.mem_of_getElem? (i := 524) (by decide +kernel), List.mem_of_getElem? (i := 871) (by decide +kernel), List.mem_of_getElem? (i := 872) (by decide +kernel)⟩
theorem lw_p59 : lw_okq (⟨"MailPartsModel", "ask", "()I"⟩, 57) := ⟨⟨by decide +kernel, by decide +kernel⟩, List.mem_of_getElem? (i := 524) (by decide +kernel), List.mem_of_getElem? (i := 883) (by decide +kernel), List.mem_of_getElem? (i := 884) (by decide +kernel)⟩
theorem lw_p60 : lw_okq (⟨"MailPartsModel", "isListed", "(IZ)Z"⟩, 57) := ⟨⟨by decide +kernel, by decide +kernel⟩, List.mem_of_getElem? (i := 524) (by decide +kernel), List.mem_of_getElem? (i := 899) (by decide +kernel), List.mem_of_getElem? (i := 900) (by decide +kernel)⟩
theorem lw_p61 : lw_okq (⟨"MailPartsModel", "isHanging", "(I)Z"⟩, 57) := ⟨⟨by decide +kernel, by decide +kernel⟩, List.mem_of_getElem? (i := 524) (by decide +kernel), List.mem_of_getElem? (i := 903) (by decide +kernel), List.mem_of_getElem? (i := 904) (by decide +kernel)⟩
theorem lw_p62 : lw_okq (⟨"MailPartsModel", "put", "(II)V"⟩, 57) := ⟨⟨by decide +kernel, by decide +kernel⟩, List.mem_of_getElem? (i := 524) (by decide +kernel), List.mem_of_getElem? (i := 911) (by decide +kernel), List.mem_of_getElem? (i := 912) (by decide +kernel)⟩
def lw_privs_4 : List (MethodName × Nat) := [(⟨"MailPartsModel", "isEnclosed", "(I)Z"⟩, 57), (⟨"MailPartsModel", "findTexts", "()V"⟩, 57), (⟨"MailPartsModel", "isHung", "(I)Z"⟩, 57), (⟨"MailPartsModel", "alternative", "(I)J"⟩, 57), (⟨"MailPartsModel", "isThere", "(I)Z"⟩, 57), (⟨"MailPartsModel", "place", "(I)I"⟩, 57), (⟨"MailPartsModel", "children", "(I)I"⟩, 57), (⟨"MailPartsModel", "fields", "(I)I"⟩, 57), (⟨"MailPartsModel", "isAlike", "(II)Z"⟩, 57), (⟨"MailPartsModel", "tell", "(II)Z"⟩, 57), (⟨"MailPartsModel", "called", "(I)V"⟩, 57), (⟨"MailPartsModel", "ask", "()I"⟩, 57), (⟨"MailPartsModel", "isListed", "(IZ)Z"⟩, 57), (⟨"MailPartsModel", "isHanging", "(I)Z"⟩, 57), (⟨"MailPartsModel", "put", "(II)V"⟩, 57)]
theorem lw_r4 : ∀ q ∈ lw_privs_4, lw_okq q := List.forall_mem_cons.mpr ⟨lw_p48, List.forall_mem_cons.mpr ⟨lw_p49, List.forall_mem_cons.mpr ⟨lw_p50, List.forall_mem_cons.mpr ⟨lw_p51, List.forall_mem_cons.mpr ⟨lw_p52, List.forall_mem_cons.mpr ⟨lw_p53, List.forall_mem_cons.mpr ⟨lw_p54, List.forall_mem_cons.mpr ⟨lw_p55, List.forall_mem_cons.mpr ⟨lw_p56, List.forall_mem_cons.mpr ⟨lw_p57, List.forall_mem_cons.mpr ⟨lw_p58, List.forall_mem_cons.mpr ⟨lw_p59, List.forall_mem_cons.mpr ⟨lw_p60, List.forall_mem_cons.mpr ⟨lw_p61, List.forall_mem_cons.mpr ⟨lw_p62, fun _ h => absurd h List.not_mem_nil⟩⟩⟩⟩⟩⟩⟩⟩⟩⟩⟩⟩⟩⟩⟩
def lw_privs : List (MethodName × Nat) := lw_privs_1 ++ (lw_privs_2 ++ (lw_privs_3 ++ (lw_privs_4)))
def lw_tbl : List Cond := k2_sels lw_privs ++ tables_1
theorem lw_privs_ok : ∀ q ∈ lw_privs, lw_okq q := by
  show ∀ q ∈ lw_privs_1 ++ (lw_privs_2 ++ (lw_privs_3 ++ (lw_privs_4))), lw_okq q
  exact List.forall_mem_append.mpr ⟨lw_r1, List.forall_mem_append.mpr ⟨lw_r2, List.forall_mem_append.mpr ⟨lw_r3, lw_r4⟩⟩⟩
end
section
def T_En : u_T := fun k => match k with
  | 0 => ("MailParts$Entity", "kind", "I", false)
  | 1 => ("MailParts$Entity", "in", "I", false)
  | 2 => ("MailParts$Entity", "deep", "I", false)
  | 3 => ("MailParts$Entity", "hung", "Z", false)
  | 4 => ("MailParts$Entity", "from", "I", false)
  | 5 => ("MailParts$Entity", "headTo", "I", false)
  | 6 => ("MailParts$Entity", "bodyFrom", "I", false)
  | 7 => ("MailParts$Entity", "to", "I", false)
  | 8 => ("MailParts$Entity", "parts", "I", false)
  | 9 => ("MailParts$Entity", "fields", "I", false)
  | 10 => ("MailParts$Entity", "alternative", "Z", false)
  | 11 => ("MailParts$Entity", "digest", "Z", false)
  | 12 => ("MailParts$Entity", "hangs", "Z", false)
  | 13 => ("MailParts$Entity", "hasTexts", "Z", false)
  | 14 => ("MailParts$Entity", "hasHtml", "Z", false)
  | 15 => ("MailParts$Entity", "chosen", "I", false)
  | _ => ("MailParts$Entity", "taken", "Z", false)
def t_En : Nat → FieldType := fun k => match k with
  | 0 => .int
  | 1 => .int
  | 2 => .int
  | 3 => .boolean
  | 4 => .int
  | 5 => .int
  | 6 => .int
  | 7 => .int
  | 8 => .int
  | 9 => .int
  | 10 => .boolean
  | 11 => .boolean
  | 12 => .boolean
  | 13 => .boolean
  | 14 => .boolean
  | 15 => .int
  | _ => .boolean
def T_Ma : u_T := fun k => match k with
  | 0 => ("MailParts$Mail", "bytes", "LMailParts$Row;", true)
  | 1 => ("MailParts$Mail", "starts", "[I", true)
  | 2 => ("MailParts$Mail", "stops", "[I", true)
  | _ => ("MailParts$Mail", "lines", "I", false)
def t_Ma : Nat → FieldType := fun k => match k with
  | 0 => .object "MailParts$Row"
  | 1 => .array .int
  | 2 => .array .int
  | _ => .int
def T_Ro : u_T := fun k => match k with
  | 0 => ("MailParts$Row", "numbers", "[I", true)
  | _ => ("MailParts$Row", "size", "I", false)
def t_Ro : Nat → FieldType := fun k => match k with
  | 0 => .array .int
  | _ => .int
def T_Va : u_T := fun k => match k with
  | _ => ("MailParts$Value", "bytes", "LMailParts$Row;", true)
def t_Va : Nat → FieldType := fun k => match k with
  | _ => .object "MailParts$Row"
def T_Mp : u_T := fun k => match k with
  | 0 => ("MailParts", "ready", "LMailParts$Row;", true)
  | 1 => ("MailParts", "tape", "LMailParts$Row;", true)
  | 2 => ("MailParts", "mail", "LMailParts$Mail;", true)
  | 3 => ("MailParts", "value", "LMailParts$Value;", true)
  | 4 => ("MailParts", "typeField", "LMailParts$Row;", true)
  | 5 => ("MailParts", "codingField", "LMailParts$Row;", true)
  | 6 => ("MailParts", "dispositionField", "LMailParts$Row;", true)
  | 7 => ("MailParts", "boundaryName", "LMailParts$Row;", true)
  | 8 => ("MailParts", "filenameName", "LMailParts$Row;", true)
  | 9 => ("MailParts", "nameName", "LMailParts$Row;", true)
  | 10 => ("MailParts", "entities", "[LMailParts$Entity;", true)
  | 11 => ("MailParts", "boundaries", "[LMailParts$Row;", true)
  | 12 => ("MailParts", "textLeaves", "LMailParts$Row;", true)
  | 13 => ("MailParts", "hangingLeaves", "LMailParts$Row;", true)
  | 14 => ("MailParts", "made", "I", false)
  | _ => ("MailParts", "lost", "I", false)
def t_Mp : Nat → FieldType := fun k => match k with
  | 0 => .object "MailParts$Row"
  | 1 => .object "MailParts$Row"
  | 2 => .object "MailParts$Mail"
  | 3 => .object "MailParts$Value"
  | 4 => .object "MailParts$Row"
  | 5 => .object "MailParts$Row"
  | 6 => .object "MailParts$Row"
  | 7 => .object "MailParts$Row"
  | 8 => .object "MailParts$Row"
  | 9 => .object "MailParts$Row"
  | 10 => .array (.object "MailParts$Entity")
  | 11 => .array (.object "MailParts$Row")
  | 12 => .object "MailParts$Row"
  | 13 => .object "MailParts$Row"
  | 14 => .int
  | _ => .int
def T_Mo : u_T := fun k => match k with
  | 0 => ("MailPartsModel", "CONTENT", "[I", true)
  | 1 => ("MailPartsModel", "TRANSFER", "[I", true)
  | 2 => ("MailPartsModel", "DISPOSITION", "[I", true)
  | 3 => ("MailPartsModel", "BOUNDARY_NAME", "[I", true)
  | 4 => ("MailPartsModel", "FILE_NAME", "[I", true)
  | 5 => ("MailPartsModel", "NAME", "[I", true)
  | 6 => ("MailPartsModel", "PLAIN", "[I", true)
  | 7 => ("MailPartsModel", "HTML", "[I", true)
  | 8 => ("MailPartsModel", "TEXT", "[I", true)
  | 9 => ("MailPartsModel", "MULTIPART", "[I", true)
  | 10 => ("MailPartsModel", "DIGEST", "[I", true)
  | 11 => ("MailPartsModel", "ALTERNATIVE", "[I", true)
  | 12 => ("MailPartsModel", "MESSAGE", "[I", true)
  | 13 => ("MailPartsModel", "ATTACHMENT", "[I", true)
  | 14 => ("MailPartsModel", "SEVEN", "[I", true)
  | 15 => ("MailPartsModel", "EIGHT", "[I", true)
  | 16 => ("MailPartsModel", "BINARY", "[I", true)
  | 17 => ("MailPartsModel", "ready", "[B", true)
  | 18 => ("MailPartsModel", "tape", "[B", true)
  | 19 => ("MailPartsModel", "taped", "I", false)
  | 20 => ("MailPartsModel", "mail", "[B", true)
  | 21 => ("MailPartsModel", "size", "I", false)
  | 22 => ("MailPartsModel", "isRead", "Z", false)
  | 23 => ("MailPartsModel", "lines", "I", false)
  | 24 => ("MailPartsModel", "lineFrom", "[I", true)
  | 25 => ("MailPartsModel", "lineTo", "[I", true)
  | 26 => ("MailPartsModel", "entities", "I", false)
  | 27 => ("MailPartsModel", "lost", "I", false)
  | 28 => ("MailPartsModel", "first", "[I", true)
  | 29 => ("MailPartsModel", "end", "[I", true)
  | 30 => ("MailPartsModel", "headEnd", "[I", true)
  | 31 => ("MailPartsModel", "body", "[I", true)
  | 32 => ("MailPartsModel", "around", "[I", true)
  | 33 => ("MailPartsModel", "depth", "[I", true)
  | 34 => ("MailPartsModel", "kind", "[I", true)
  | 35 => ("MailPartsModel", "texts", "[J", true)
  | 36 => ("MailPartsModel", "shown", "J", false)
  | 37 => ("MailPartsModel", "html", "J", false)
  | 38 => ("MailPartsModel", "tasks", "I", false)
  | 39 => ("MailPartsModel", "taskFrom", "[I", true)
  | 40 => ("MailPartsModel", "taskTo", "[I", true)
  | 41 => ("MailPartsModel", "taskIn", "[I", true)
  | 42 => ("MailPartsModel", "parts", "I", false)
  | 43 => ("MailPartsModel", "partFrom", "[I", true)
  | 44 => ("MailPartsModel", "partTo", "[I", true)
  | 45 => ("MailPartsModel", "value", "[B", true)
  | 46 => ("MailPartsModel", "valueSize", "I", false)
  | 47 => ("MailPartsModel", "items", "I", false)
  | 48 => ("MailPartsModel", "from", "I", false)
  | 49 => ("MailPartsModel", "to", "I", false)
  | 50 => ("MailPartsModel", "itemFrom", "[I", true)
  | 51 => ("MailPartsModel", "itemTo", "[I", true)
  | 52 => ("MailPartsModel", "got", "[B", true)
  | 53 => ("MailPartsModel", "gotSize", "I", false)
  | 54 => ("MailPartsModel", "mark", "[B", true)
  | 55 => ("MailPartsModel", "markSize", "I", false)
  | _ => ("MailPartsModel", "asked", "[I", true)
def t_Mo : Nat → FieldType := fun k => match k with
  | 0 => .array .int
  | 1 => .array .int
  | 2 => .array .int
  | 3 => .array .int
  | 4 => .array .int
  | 5 => .array .int
  | 6 => .array .int
  | 7 => .array .int
  | 8 => .array .int
  | 9 => .array .int
  | 10 => .array .int
  | 11 => .array .int
  | 12 => .array .int
  | 13 => .array .int
  | 14 => .array .int
  | 15 => .array .int
  | 16 => .array .int
  | 17 => .array .byte
  | 18 => .array .byte
  | 19 => .int
  | 20 => .array .byte
  | 21 => .int
  | 22 => .boolean
  | 23 => .int
  | 24 => .array .int
  | 25 => .array .int
  | 26 => .int
  | 27 => .int
  | 28 => .array .int
  | 29 => .array .int
  | 30 => .array .int
  | 31 => .array .int
  | 32 => .array .int
  | 33 => .array .int
  | 34 => .array .int
  | 35 => .array .long
  | 36 => .long
  | 37 => .long
  | 38 => .int
  | 39 => .array .int
  | 40 => .array .int
  | 41 => .array .int
  | 42 => .int
  | 43 => .array .int
  | 44 => .array .int
  | 45 => .array .byte
  | 46 => .int
  | 47 => .int
  | 48 => .int
  | 49 => .int
  | 50 => .array .int
  | 51 => .array .int
  | 52 => .array .byte
  | 53 => .int
  | 54 => .array .byte
  | 55 => .int
  | _ => .array .int
abbrev vwCl : List vw_C := [("MailParts$Entity", T_En, 17), ("MailParts$Mail", T_Ma, 4), ("MailParts$Row", T_Ro, 2), ("MailParts$Value", T_Va, 1), ("MailParts", T_Mp, 16), ("MailPartsModel", T_Mo, 57)]
theorem n_En : ∀ a, a < 17 → ∀ b, b < 17 → a ≠ b → (T_En a).2.1 ≠ (T_En b).2.1 := by decide +kernel
theorem t_En_ok : ∀ k, k < 17 → parseFieldDescriptor (T_En k).2.2.1 = some (t_En k) := by decide +kernel
theorem n_Ma : ∀ a, a < 4 → ∀ b, b < 4 → a ≠ b → (T_Ma a).2.1 ≠ (T_Ma b).2.1 := by decide +kernel
theorem t_Ma_ok : ∀ k, k < 4 → parseFieldDescriptor (T_Ma k).2.2.1 = some (t_Ma k) := by decide +kernel
theorem n_Ro : ∀ a, a < 2 → ∀ b, b < 2 → a ≠ b → (T_Ro a).2.1 ≠ (T_Ro b).2.1 := by decide +kernel
theorem t_Ro_ok : ∀ k, k < 2 → parseFieldDescriptor (T_Ro k).2.2.1 = some (t_Ro k) := by decide +kernel
theorem n_Va : ∀ a, a < 1 → ∀ b, b < 1 → a ≠ b → (T_Va a).2.1 ≠ (T_Va b).2.1 := by decide +kernel
theorem t_Va_ok : ∀ k, k < 1 → parseFieldDescriptor (T_Va k).2.2.1 = some (t_Va k) := by decide +kernel
theorem n_Mp : ∀ a, a < 16 → ∀ b, b < 16 → a ≠ b → (T_Mp a).2.1 ≠ (T_Mp b).2.1 := by decide +kernel
theorem t_Mp_ok : ∀ k, k < 16 → parseFieldDescriptor (T_Mp k).2.2.1 = some (t_Mp k) := by decide +kernel
theorem n_Mo : ∀ a, a < 57 → ∀ b, b < 57 → a ≠ b → (T_Mo a).2.1 ≠ (T_Mo b).2.1 := by decide +kernel
theorem t_Mo_ok : ∀ k, k < 57 → parseFieldDescriptor (T_Mo k).2.2.1 = some (t_Mo k) := by decide +kernel
abbrev b_Mp_init : ByteArray := prog_1_method_1_code
def y_Mp_init : MethodName := ⟨"MailParts", "<init>", "()V"⟩
abbrev b_Mp_feed : ByteArray := prog_1_method_2_code
def y_Mp_feed : MethodName := ⟨"MailParts", "feed", "(IIIII)V"⟩
abbrev b_Mp_end : ByteArray := prog_1_method_3_code
def y_Mp_end : MethodName := ⟨"MailParts", "end", "(I)I"⟩
abbrev b_Mp_read : ByteArray := prog_1_method_4_code
def y_Mp_read : MethodName := ⟨"MailParts", "read", "()I"⟩
abbrev b_Mp_entity : ByteArray := prog_1_method_5_code
def y_Mp_entity : MethodName := ⟨"MailParts", "entity", "(II)I"⟩
abbrev b_Mp_length : ByteArray := prog_1_method_6_code
def y_Mp_length : MethodName := ⟨"MailParts", "length", "(II)I"⟩
abbrev b_Mp_at : ByteArray := prog_1_method_7_code
def y_Mp_at : MethodName := ⟨"MailParts", "at", "(III)I"⟩
abbrev b_Mp_field : ByteArray := prog_1_method_8_code
def y_Mp_field : MethodName := ⟨"MailParts", "field", "(I)I"⟩
abbrev b_Mp_parameter : ByteArray := prog_1_method_9_code
def y_Mp_parameter : MethodName := ⟨"MailParts", "parameter", "(I)I"⟩
abbrev b_Mp_byteAt : ByteArray := prog_1_method_10_code
def y_Mp_byteAt : MethodName := ⟨"MailParts", "byteAt", "(I)I"⟩
abbrev b_Mp_text : ByteArray := prog_1_method_11_code
def y_Mp_text : MethodName := ⟨"MailParts", "text", "(ZI)I"⟩
abbrev b_Mp_body : ByteArray := prog_1_method_12_code
def y_Mp_body : MethodName := ⟨"MailParts", "body", "(II)I"⟩
abbrev b_Mp_count : ByteArray := prog_1_method_13_code
def y_Mp_count : MethodName := ⟨"MailParts", "count", "(I)I"⟩
abbrev b_Mp_addWord : ByteArray := prog_1_method_14_code
def y_Mp_addWord : MethodName := ⟨"MailParts", "addWord", "(I)V"⟩
abbrev b_Mp_find : ByteArray := prog_1_method_15_code
def y_Mp_find : MethodName := ⟨"MailParts", "find", "(I)LMailParts$Entity;"⟩
abbrev b_Mp_answerOnTape : ByteArray := prog_1_method_16_code
def y_Mp_answerOnTape : MethodName := ⟨"MailParts", "answerOnTape", "(Z)I"⟩
abbrev b_Mp_countFields : ByteArray := prog_1_method_17_code
def y_Mp_countFields : MethodName := ⟨"MailParts", "countFields", "(LMailParts$Entity;)I"⟩
abbrev b_Mp_openEntity : ByteArray := prog_1_method_18_code
def y_Mp_openEntity : MethodName := ⟨"MailParts", "openEntity", "(IIII)V"⟩
abbrev b_Mp_openParts : ByteArray := prog_1_method_19_code
def y_Mp_openParts : MethodName := ⟨"MailParts", "openParts", "(LMailParts$Entity;II)V"⟩
abbrev b_Mp_describe : ByteArray := prog_1_method_20_code
def y_Mp_describe : MethodName := ⟨"MailParts", "describe", "(LMailParts$Entity;)V"⟩
abbrev b_Mp_hasBoundary : ByteArray := prog_1_method_21_code
def y_Mp_hasBoundary : MethodName := ⟨"MailParts", "hasBoundary", "(LMailParts$Entity;)Z"⟩
abbrev b_Mp_isOpenCoding : ByteArray := prog_1_method_22_code
def y_Mp_isOpenCoding : MethodName := ⟨"MailParts", "isOpenCoding", "(LMailParts$Entity;)Z"⟩
abbrev b_Mp_chooseTexts : ByteArray := prog_1_method_23_code
def y_Mp_chooseTexts : MethodName := ⟨"MailParts", "chooseTexts", "()V"⟩
abbrev b_Mp_listLeaves : ByteArray := prog_1_method_24_code
def y_Mp_listLeaves : MethodName := ⟨"MailParts", "listLeaves", "()V"⟩
abbrev b_Mp_loadWord : ByteArray := prog_1_method_25_code
def y_Mp_loadWord : MethodName := ⟨"MailParts", "loadWord", "(II)Z"⟩
abbrev b_Mp_loadType : ByteArray := prog_1_method_26_code
def y_Mp_loadType : MethodName := ⟨"MailParts", "loadType", "(LMailParts$Entity;)V"⟩
abbrev b_Mp_loadName : ByteArray := prog_1_method_27_code
def y_Mp_loadName : MethodName := ⟨"MailParts", "loadName", "(LMailParts$Entity;)V"⟩
abbrev b_Mp_loadField : ByteArray := prog_1_method_28_code
def y_Mp_loadField : MethodName := ⟨"MailParts", "loadField", "(LMailParts$Entity;LMailParts$Row;)Z"⟩
abbrev b_Mp_rowOf : ByteArray := prog_1_method_29_code
def y_Mp_rowOf : MethodName := ⟨"MailParts", "rowOf", "(Ljava/lang/String;)LMailParts$Row;"⟩
abbrev b_Mp_isBlank : ByteArray := prog_1_method_30_code
def y_Mp_isBlank : MethodName := ⟨"MailParts", "isBlank", "(I)Z"⟩
abbrev b_Mp_isNameByte : ByteArray := prog_1_method_31_code
def y_Mp_isNameByte : MethodName := ⟨"MailParts", "isNameByte", "(I)Z"⟩
abbrev b_Mp_small : ByteArray := prog_1_method_32_code
def y_Mp_small : MethodName := ⟨"MailParts", "small", "(I)I"⟩
abbrev b_Mo_init : ByteArray := prog_7_method_1_code
def y_Mo_init : MethodName := ⟨"MailPartsModel", "<init>", "()V"⟩
abbrev b_Mo_isBlank : ByteArray := prog_7_method_2_code
def y_Mo_isBlank : MethodName := ⟨"MailPartsModel", "isBlank", "(I)Z"⟩
abbrev b_Mo_small : ByteArray := prog_7_method_3_code
def y_Mo_small : MethodName := ⟨"MailPartsModel", "small", "(I)I"⟩
abbrev b_Mo_isName : ByteArray := prog_7_method_4_code
def y_Mo_isName : MethodName := ⟨"MailPartsModel", "isName", "(I)Z"⟩
abbrev b_Mo_split : ByteArray := prog_7_method_5_code
def y_Mo_split : MethodName := ⟨"MailPartsModel", "split", "()V"⟩
abbrev b_Mo_colon : ByteArray := prog_7_method_6_code
def y_Mo_colon : MethodName := ⟨"MailPartsModel", "colon", "(I)I"⟩
abbrev b_Mo_findHead : ByteArray := prog_7_method_7_code
def y_Mo_findHead : MethodName := ⟨"MailPartsModel", "findHead", "(I)V"⟩
abbrev b_Mo_isWord : ByteArray := prog_7_method_8_code
def y_Mo_isWord : MethodName := ⟨"MailPartsModel", "isWord", "([BII[II)Z"⟩
abbrev b_Mo_find : ByteArray := prog_7_method_9_code
def y_Mo_find : MethodName := ⟨"MailPartsModel", "find", "(I[II)Z"⟩
abbrev b_Mo_trim : ByteArray := prog_7_method_10_code
def y_Mo_trim : MethodName := ⟨"MailPartsModel", "trim", "(II)V"⟩
abbrev b_Mo_over : ByteArray := prog_7_method_11_code
def y_Mo_over : MethodName := ⟨"MailPartsModel", "over", "(II)I"⟩
abbrev b_Mo_itemize : ByteArray := prog_7_method_12_code
def y_Mo_itemize : MethodName := ⟨"MailPartsModel", "itemize", "()V"⟩
abbrev b_Mo_keep : ByteArray := prog_7_method_13_code
def y_Mo_keep : MethodName := ⟨"MailPartsModel", "keep", "(IIZ)V"⟩
abbrev b_Mo_nothing : ByteArray := prog_7_method_14_code
def y_Mo_nothing : MethodName := ⟨"MailPartsModel", "nothing", "()V"⟩
abbrev b_Mo_firstItem : ByteArray := prog_7_method_15_code
def y_Mo_firstItem : MethodName := ⟨"MailPartsModel", "firstItem", "(I[I)V"⟩
abbrev b_Mo_parameterOf : ByteArray := prog_7_method_16_code
def y_Mo_parameterOf : MethodName := ⟨"MailPartsModel", "parameterOf", "([II)Z"⟩
abbrev b_Mo_unquote : ByteArray := prog_7_method_17_code
def y_Mo_unquote : MethodName := ⟨"MailPartsModel", "unquote", "()V"⟩
abbrev b_Mo_isGot : ByteArray := prog_7_method_18_code
def y_Mo_isGot : MethodName := ⟨"MailPartsModel", "isGot", "([I)Z"⟩
abbrev b_Mo_begins : ByteArray := prog_7_method_19_code
def y_Mo_begins : MethodName := ⟨"MailPartsModel", "begins", "([I)Z"⟩
abbrev b_Mo_isType : ByteArray := prog_7_method_20_code
def y_Mo_isType : MethodName := ⟨"MailPartsModel", "isType", "()Z"⟩
abbrev b_Mo_set : ByteArray := prog_7_method_21_code
def y_Mo_set : MethodName := ⟨"MailPartsModel", "set", "([I)V"⟩
abbrev b_Mo_type : ByteArray := prog_7_method_22_code
def y_Mo_type : MethodName := ⟨"MailPartsModel", "type", "(I)V"⟩
abbrev b_Mo_called : ByteArray := prog_7_method_23_code
def y_Mo_called : MethodName := ⟨"MailPartsModel", "called", "(I)V"⟩
abbrev b_Mo_isHung : ByteArray := prog_7_method_24_code
def y_Mo_isHung : MethodName := ⟨"MailPartsModel", "isHung", "(I)Z"⟩
abbrev b_Mo_marked : ByteArray := prog_7_method_25_code
def y_Mo_marked : MethodName := ⟨"MailPartsModel", "marked", "(I)I"⟩
abbrev b_Mo_findParts : ByteArray := prog_7_method_26_code
def y_Mo_findParts : MethodName := ⟨"MailPartsModel", "findParts", "(I)V"⟩
abbrev b_Mo_add : ByteArray := prog_7_method_27_code
def y_Mo_add : MethodName := ⟨"MailPartsModel", "add", "(II)V"⟩
abbrev b_Mo_push : ByteArray := prog_7_method_28_code
def y_Mo_push : MethodName := ⟨"MailPartsModel", "push", "(III)V"⟩
abbrev b_Mo_isMulti : ByteArray := prog_7_method_29_code
def y_Mo_isMulti : MethodName := ⟨"MailPartsModel", "isMulti", "(I)Z"⟩
abbrev b_Mo_isEnclosed : ByteArray := prog_7_method_30_code
def y_Mo_isEnclosed : MethodName := ⟨"MailPartsModel", "isEnclosed", "(I)Z"⟩
abbrev b_Mo_look : ByteArray := prog_7_method_31_code
def y_Mo_look : MethodName := ⟨"MailPartsModel", "look", "(I)V"⟩
abbrev b_Mo_build : ByteArray := prog_7_method_32_code
def y_Mo_build : MethodName := ⟨"MailPartsModel", "build", "()V"⟩
abbrev b_Mo_alternative : ByteArray := prog_7_method_33_code
def y_Mo_alternative : MethodName := ⟨"MailPartsModel", "alternative", "(I)J"⟩
abbrev b_Mo_findTexts : ByteArray := prog_7_method_34_code
def y_Mo_findTexts : MethodName := ⟨"MailPartsModel", "findTexts", "()V"⟩
abbrev b_Mo_isHanging : ByteArray := prog_7_method_35_code
def y_Mo_isHanging : MethodName := ⟨"MailPartsModel", "isHanging", "(I)Z"⟩
abbrev b_Mo_feed : ByteArray := prog_7_method_36_code
def y_Mo_feed : MethodName := ⟨"MailPartsModel", "feed", "(IIIII)V"⟩
abbrev b_Mo_end : ByteArray := prog_7_method_37_code
def y_Mo_end : MethodName := ⟨"MailPartsModel", "end", "(I)I"⟩
abbrev b_Mo_read : ByteArray := prog_7_method_38_code
def y_Mo_read : MethodName := ⟨"MailPartsModel", "read", "()I"⟩
abbrev b_Mo_isThere : ByteArray := prog_7_method_39_code
def y_Mo_isThere : MethodName := ⟨"MailPartsModel", "isThere", "(I)Z"⟩
abbrev b_Mo_place : ByteArray := prog_7_method_40_code
def y_Mo_place : MethodName := ⟨"MailPartsModel", "place", "(I)I"⟩
abbrev b_Mo_children : ByteArray := prog_7_method_41_code
def y_Mo_children : MethodName := ⟨"MailPartsModel", "children", "(I)I"⟩
abbrev b_Mo_fields : ByteArray := prog_7_method_42_code
def y_Mo_fields : MethodName := ⟨"MailPartsModel", "fields", "(I)I"⟩
abbrev b_Mo_isAlike : ByteArray := prog_7_method_43_code
def y_Mo_isAlike : MethodName := ⟨"MailPartsModel", "isAlike", "(II)Z"⟩
abbrev b_Mo_entity : ByteArray := prog_7_method_44_code
def y_Mo_entity : MethodName := ⟨"MailPartsModel", "entity", "(II)I"⟩
abbrev b_Mo_tell : ByteArray := prog_7_method_45_code
def y_Mo_tell : MethodName := ⟨"MailPartsModel", "tell", "(II)Z"⟩
abbrev b_Mo_length : ByteArray := prog_7_method_46_code
def y_Mo_length : MethodName := ⟨"MailPartsModel", "length", "(II)I"⟩
abbrev b_Mo_at : ByteArray := prog_7_method_47_code
def y_Mo_at : MethodName := ⟨"MailPartsModel", "at", "(III)I"⟩
abbrev b_Mo_ask : ByteArray := prog_7_method_48_code
def y_Mo_ask : MethodName := ⟨"MailPartsModel", "ask", "()I"⟩
abbrev b_Mo_field : ByteArray := prog_7_method_49_code
def y_Mo_field : MethodName := ⟨"MailPartsModel", "field", "(I)I"⟩
abbrev b_Mo_parameter : ByteArray := prog_7_method_50_code
def y_Mo_parameter : MethodName := ⟨"MailPartsModel", "parameter", "(I)I"⟩
abbrev b_Mo_byteAt : ByteArray := prog_7_method_51_code
def y_Mo_byteAt : MethodName := ⟨"MailPartsModel", "byteAt", "(I)I"⟩
abbrev b_Mo_isListed : ByteArray := prog_7_method_52_code
def y_Mo_isListed : MethodName := ⟨"MailPartsModel", "isListed", "(IZ)Z"⟩
abbrev b_Mo_text : ByteArray := prog_7_method_53_code
def y_Mo_text : MethodName := ⟨"MailPartsModel", "text", "(ZI)I"⟩
abbrev b_Mo_body : ByteArray := prog_7_method_54_code
def y_Mo_body : MethodName := ⟨"MailPartsModel", "body", "(II)I"⟩
abbrev b_Mo_put : ByteArray := prog_7_method_55_code
def y_Mo_put : MethodName := ⟨"MailPartsModel", "put", "(II)V"⟩
abbrev b_Mo_count : ByteArray := prog_7_method_56_code
def y_Mo_count : MethodName := ⟨"MailPartsModel", "count", "(I)I"⟩
abbrev b_En_init : ByteArray := prog_2_method_1_code
def y_En_init : MethodName := ⟨"MailParts$Entity", "<init>", "()V"⟩
abbrev b_Ma_init : ByteArray := prog_3_method_1_code
def y_Ma_init : MethodName := ⟨"MailParts$Mail", "<init>", "()V"⟩
abbrev b_Ma_take : ByteArray := prog_3_method_2_code
def y_Ma_take : MethodName := ⟨"MailParts$Mail", "take", "(LMailParts$Row;)V"⟩
abbrev b_Ma_addLine : ByteArray := prog_3_method_3_code
def y_Ma_addLine : MethodName := ⟨"MailParts$Mail", "addLine", "(II)V"⟩
abbrev b_Ma_startOf : ByteArray := prog_3_method_4_code
def y_Ma_startOf : MethodName := ⟨"MailParts$Mail", "startOf", "(I)I"⟩
abbrev b_Ma_stopOf : ByteArray := prog_3_method_5_code
def y_Ma_stopOf : MethodName := ⟨"MailParts$Mail", "stopOf", "(I)I"⟩
abbrev b_Ma_isEmptyLine : ByteArray := prog_3_method_6_code
def y_Ma_isEmptyLine : MethodName := ⟨"MailParts$Mail", "isEmptyLine", "(I)Z"⟩
abbrev b_Ma_beginsBlank : ByteArray := prog_3_method_7_code
def y_Ma_beginsBlank : MethodName := ⟨"MailParts$Mail", "beginsBlank", "(I)Z"⟩
abbrev b_Ma_colonOf : ByteArray := prog_3_method_8_code
def y_Ma_colonOf : MethodName := ⟨"MailParts$Mail", "colonOf", "(I)I"⟩
abbrev b_Ma_headStop : ByteArray := prog_3_method_9_code
def y_Ma_headStop : MethodName := ⟨"MailParts$Mail", "headStop", "(II)I"⟩
abbrev b_Ma_fieldLine : ByteArray := prog_3_method_10_code
def y_Ma_fieldLine : MethodName := ⟨"MailParts$Mail", "fieldLine", "(IILMailParts$Row;)I"⟩
abbrev b_Ma_copyValue : ByteArray := prog_3_method_11_code
def y_Ma_copyValue : MethodName := ⟨"MailParts$Mail", "copyValue", "(IILMailParts$Row;)V"⟩
abbrev b_Ma_copyLines : ByteArray := prog_3_method_12_code
def y_Ma_copyLines : MethodName := ⟨"MailParts$Mail", "copyLines", "(IILMailParts$Row;)V"⟩
abbrev b_Ma_markOf : ByteArray := prog_3_method_13_code
def y_Ma_markOf : MethodName := ⟨"MailParts$Mail", "markOf", "(ILMailParts$Row;)I"⟩
abbrev b_Ma_hasDashes : ByteArray := prog_3_method_14_code
def y_Ma_hasDashes : MethodName := ⟨"MailParts$Mail", "hasDashes", "(II)Z"⟩
abbrev b_Ro_init : ByteArray := prog_4_method_1_code
def y_Ro_init : MethodName := ⟨"MailParts$Row", "<init>", "(I)V"⟩
abbrev b_Ro_get : ByteArray := prog_4_method_2_code
def y_Ro_get : MethodName := ⟨"MailParts$Row", "get", "(I)I"⟩
abbrev b_Ro_clear : ByteArray := prog_4_method_3_code
def y_Ro_clear : MethodName := ⟨"MailParts$Row", "clear", "()V"⟩
abbrev b_Ro_add : ByteArray := prog_4_method_4_code
def y_Ro_add : MethodName := ⟨"MailParts$Row", "add", "(I)V"⟩
abbrev b_Ro_set : ByteArray := prog_4_method_5_code
def y_Ro_set : MethodName := ⟨"MailParts$Row", "set", "(II)V"⟩
abbrev b_Ro_shorten : ByteArray := prog_4_method_6_code
def y_Ro_shorten : MethodName := ⟨"MailParts$Row", "shorten", "(I)V"⟩
abbrev b_Ro_addRange : ByteArray := prog_4_method_7_code
def y_Ro_addRange : MethodName := ⟨"MailParts$Row", "addRange", "(LMailParts$Row;II)V"⟩
abbrev b_Ro_put : ByteArray := prog_4_method_8_code
def y_Ro_put : MethodName := ⟨"MailParts$Row", "put", "(Ljava/lang/String;)V"⟩
abbrev b_Ro_begins : ByteArray := prog_4_method_9_code
def y_Ro_begins : MethodName := ⟨"MailParts$Row", "begins", "(Ljava/lang/String;)Z"⟩
abbrev b_Ro_is : ByteArray := prog_4_method_10_code
def y_Ro_is : MethodName := ⟨"MailParts$Row", "is", "(Ljava/lang/String;)Z"⟩
abbrev b_Ro_hasName : ByteArray := prog_4_method_11_code
def y_Ro_hasName : MethodName := ⟨"MailParts$Row", "hasName", "(ILMailParts$Row;)Z"⟩
abbrev b_Va_init : ByteArray := prog_5_method_1_code
def y_Va_init : MethodName := ⟨"MailParts$Value", "<init>", "()V"⟩
abbrev b_Va_keepFirstItem : ByteArray := prog_5_method_2_code
def y_Va_keepFirstItem : MethodName := ⟨"MailParts$Value", "keepFirstItem", "()V"⟩
abbrev b_Va_keepParameter : ByteArray := prog_5_method_3_code
def y_Va_keepParameter : MethodName := ⟨"MailParts$Value", "keepParameter", "(LMailParts$Row;)Z"⟩
abbrev b_Va_isType : ByteArray := prog_5_method_4_code
def y_Va_isType : MethodName := ⟨"MailParts$Value", "isType", "()Z"⟩
abbrev b_Va_find : ByteArray := prog_5_method_5_code
def y_Va_find : MethodName := ⟨"MailParts$Value", "find", "(III)I"⟩
abbrev b_Va_isNamed : ByteArray := prog_5_method_6_code
def y_Va_isNamed : MethodName := ⟨"MailParts$Value", "isNamed", "(IILMailParts$Row;)Z"⟩
abbrev b_Va_behindBlanks : ByteArray := prog_5_method_7_code
def y_Va_behindBlanks : MethodName := ⟨"MailParts$Value", "behindBlanks", "(II)I"⟩
abbrev b_Va_aheadOfBlanks : ByteArray := prog_5_method_8_code
def y_Va_aheadOfBlanks : MethodName := ⟨"MailParts$Value", "aheadOfBlanks", "(II)I"⟩
abbrev b_Va_keep : ByteArray := prog_5_method_9_code
def y_Va_keep : MethodName := ⟨"MailParts$Value", "keep", "(II)V"⟩
abbrev b_Va_unquote : ByteArray := prog_5_method_10_code
def y_Va_unquote : MethodName := ⟨"MailParts$Value", "unquote", "()V"⟩
abbrev b_Va_closing : ByteArray := prog_5_method_11_code
def y_Va_closing : MethodName := ⟨"MailParts$Value", "closing", "()I"⟩
end
section
theorem xm_1 {w : Cond} (h : w ∈ tables_1_1) : w ∈ lw_tbl := List.mem_append_right _ (List.mem_append_left _ h)
theorem xm_2 {w : Cond} (h : w ∈ tables_1_2) : w ∈ lw_tbl := List.mem_append_right _ (List.mem_append_right _ (List.mem_append_left _ h))
theorem xm_3 {w : Cond} (h : w ∈ tables_1_3) : w ∈ lw_tbl := List.mem_append_right _ (List.mem_append_right _ (List.mem_append_right _ (List.mem_append_left _ h)))
theorem xm_4 {w : Cond} (h : w ∈ tables_1_4) : w ∈ lw_tbl := List.mem_append_right _ (List.mem_append_right _ (List.mem_append_right _ (List.mem_append_right _ h)))
theorem xm_s {q : MethodName × Nat} (h : q ∈ lw_privs) : Cond.selects q.1.cls q.1 q.1 ∈ lw_tbl := List.mem_append_left _ (List.mem_map.mpr ⟨q, h, rfl⟩)
theorem kw_0 : Cond.initialized "MailPartsLaw" ∈ lw_tbl := xm_1 (List.mem_of_getElem? (i := 0) rfl)
theorem kw_1 : Cond.initialized "MailParts" ∈ lw_tbl := xm_1 (List.mem_of_getElem? (i := 1) rfl)
theorem kw_2 : Cond.initialized "MailParts$Row" ∈ lw_tbl := xm_1 (List.mem_of_getElem? (i := 2) rfl)
theorem kw_3 : Cond.initialized "java/lang/Math" ∈ lw_tbl := xm_1 (List.mem_of_getElem? (i := 3) rfl)
theorem kw_4 : Cond.initialized "MailParts$Mail" ∈ lw_tbl := xm_1 (List.mem_of_getElem? (i := 4) rfl)
theorem kw_5 : Cond.initialized "MailParts$Value" ∈ lw_tbl := xm_1 (List.mem_of_getElem? (i := 5) rfl)
theorem kw_6 : Cond.initialized "java/lang/String" ∈ lw_tbl := xm_1 (List.mem_of_getElem? (i := 6) rfl)
theorem kw_7 : Cond.initialized "java/lang/StringLatin1" ∈ lw_tbl := xm_1 (List.mem_of_getElem? (i := 7) rfl)
theorem kw_8 : Cond.initialized "jdk/internal/util/Preconditions" ∈ lw_tbl := xm_1 (List.mem_of_getElem? (i := 8) rfl)
theorem kw_9 : Cond.initialized "java/lang/StringUTF16" ∈ lw_tbl := xm_1 (List.mem_of_getElem? (i := 9) rfl)
theorem kw_10 : Cond.initialized "MailParts$Entity" ∈ lw_tbl := xm_1 (List.mem_of_getElem? (i := 10) rfl)
theorem kw_11 : Cond.initialized "MailPartsModel" ∈ lw_tbl := xm_1 (List.mem_of_getElem? (i := 11) rfl)
theorem kw_12 : Cond.classLink "MailPartsLaw" 7 "MailParts" ∈ lw_tbl := xm_1 (List.mem_of_getElem? (i := 12) rfl)
theorem kw_13 : Cond.instantiable "MailParts" 16 ∈ lw_tbl := xm_1 (List.mem_of_getElem? (i := 13) rfl)
theorem kw_14 : Cond.methodLink "MailPartsLaw" 9 y_Mp_init ∈ lw_tbl := xm_1 (List.mem_of_getElem? (i := 14) rfl)
theorem kw_15 : Cond.instanceMethod y_Mp_init ∈ lw_tbl := xm_1 (List.mem_of_getElem? (i := 15) rfl)
theorem kw_16 : Cond.code y_Mp_init prog_1_method_1_code 2 none ∈ lw_tbl := xm_1 (List.mem_of_getElem? (i := 16) rfl)
theorem kw_17 : Cond.methodLink "MailParts" 1 ⟨"java/lang/Object", "<init>", "()V"⟩ ∈ lw_tbl := xm_1 (List.mem_of_getElem? (i := 17) rfl)
theorem kw_18 : Cond.instanceMethod ⟨"java/lang/Object", "<init>", "()V"⟩ ∈ lw_tbl := xm_1 (List.mem_of_getElem? (i := 18) rfl)
theorem kw_19 : Cond.code ⟨"java/lang/Object", "<init>", "()V"⟩ object_method_1_code 1 none ∈ lw_tbl := xm_1 (List.mem_of_getElem? (i := 19) rfl)
theorem kw_20 : Cond.classLink "MailParts" 7 "MailParts$Row" ∈ lw_tbl := xm_1 (List.mem_of_getElem? (i := 20) rfl)
theorem kw_21 : Cond.instantiable "MailParts$Row" 2 ∈ lw_tbl := xm_1 (List.mem_of_getElem? (i := 21) rfl)
theorem kw_22 : Cond.methodLink "MailParts" 11 y_Ro_init ∈ lw_tbl := xm_1 (List.mem_of_getElem? (i := 22) rfl)
theorem kw_23 : Cond.instanceMethod y_Ro_init ∈ lw_tbl := xm_1 (List.mem_of_getElem? (i := 23) rfl)
theorem kw_24 : Cond.code y_Ro_init prog_4_method_1_code 2 none ∈ lw_tbl := xm_1 (List.mem_of_getElem? (i := 24) rfl)
theorem kw_25 : Cond.methodLink "MailParts$Row" 3 ⟨"java/lang/Object", "<init>", "()V"⟩ ∈ lw_tbl := xm_1 (List.mem_of_getElem? (i := 25) rfl)
theorem kw_26 : Cond.methodLink "MailParts$Row" 9 ⟨"java/lang/Math", "max", "(II)I"⟩ ∈ lw_tbl := xm_1 (List.mem_of_getElem? (i := 26) rfl)
theorem kw_27 : Cond.static ⟨"java/lang/Math", "max", "(II)I"⟩ ∈ lw_tbl := xm_1 (List.mem_of_getElem? (i := 27) rfl)
theorem kw_28 : Cond.code ⟨"java/lang/Math", "max", "(II)I"⟩ prog_8_method_65_code 2 (some FieldType.int) ∈ lw_tbl := xm_1 (List.mem_of_getElem? (i := 28) rfl)
theorem kw_29 : Cond.fieldLink "MailParts$Row" 15 "MailParts$Row" "numbers" "[I" ∈ lw_tbl := xm_1 (List.mem_of_getElem? (i := 29) rfl)
theorem kw_30 : Cond.fieldLink "MailParts$Row" 21 "MailParts$Row" "size" "I" ∈ lw_tbl := xm_1 (List.mem_of_getElem? (i := 30) rfl)
theorem kw_31 : Cond.fieldLinkNest "MailParts$Value" 20 "MailParts$Row" "size" "I" "MailParts" ∈ lw_tbl := xm_1 (List.mem_of_getElem? (i := 31) rfl)
theorem kw_32 : Cond.fieldLinkNest "MailParts$Mail" 34 "MailParts$Row" "size" "I" "MailParts" ∈ lw_tbl := xm_1 (List.mem_of_getElem? (i := 32) rfl)
theorem kw_33 : Cond.fieldLinkNest "MailParts" 99 "MailParts$Row" "size" "I" "MailParts" ∈ lw_tbl := xm_1 (List.mem_of_getElem? (i := 33) rfl)
theorem kw_34 : Cond.laysFinal "MailParts$Row" "MailParts$Row" "numbers" "[I" ∈ lw_tbl := xm_1 (List.mem_of_getElem? (i := 34) rfl)
theorem kw_36 : Cond.lays "MailParts$Row" "MailParts$Row" "size" "I" ∈ lw_tbl := xm_1 (List.mem_of_getElem? (i := 36) rfl)
theorem kw_39 : Cond.arrayClass FieldType.int ∈ lw_tbl := xm_1 (List.mem_of_getElem? (i := 39) rfl)
theorem kw_40 : Cond.classLink "MailParts" 21 "MailParts$Mail" ∈ lw_tbl := xm_1 (List.mem_of_getElem? (i := 40) rfl)
theorem kw_41 : Cond.instantiable "MailParts$Mail" 4 ∈ lw_tbl := xm_1 (List.mem_of_getElem? (i := 41) rfl)
theorem kw_42 : Cond.methodLink "MailParts" 23 y_Ma_init ∈ lw_tbl := xm_1 (List.mem_of_getElem? (i := 42) rfl)
theorem kw_43 : Cond.instanceMethod y_Ma_init ∈ lw_tbl := xm_1 (List.mem_of_getElem? (i := 43) rfl)
theorem kw_44 : Cond.code y_Ma_init prog_3_method_1_code 1 none ∈ lw_tbl := xm_1 (List.mem_of_getElem? (i := 44) rfl)
theorem kw_45 : Cond.methodLink "MailParts$Mail" 3 ⟨"java/lang/Object", "<init>", "()V"⟩ ∈ lw_tbl := xm_1 (List.mem_of_getElem? (i := 45) rfl)
theorem kw_46 : Cond.classLink "MailParts$Mail" 9 "MailParts$Row" ∈ lw_tbl := xm_1 (List.mem_of_getElem? (i := 46) rfl)
theorem kw_47 : Cond.methodLink "MailParts$Mail" 11 y_Ro_init ∈ lw_tbl := xm_1 (List.mem_of_getElem? (i := 47) rfl)
theorem kw_48 : Cond.fieldLink "MailParts$Mail" 14 "MailParts$Mail" "bytes" "LMailParts$Row;" ∈ lw_tbl := xm_1 (List.mem_of_getElem? (i := 48) rfl)
theorem kw_49 : Cond.fieldLinkNest "MailParts" 161 "MailParts$Mail" "bytes" "LMailParts$Row;" "MailParts" ∈ lw_tbl := xm_1 (List.mem_of_getElem? (i := 49) rfl)
theorem kw_50 : Cond.fieldLink "MailParts$Mail" 20 "MailParts$Mail" "starts" "[I" ∈ lw_tbl := xm_1 (List.mem_of_getElem? (i := 50) rfl)
theorem kw_51 : Cond.fieldLink "MailParts$Mail" 24 "MailParts$Mail" "stops" "[I" ∈ lw_tbl := xm_1 (List.mem_of_getElem? (i := 51) rfl)
theorem kw_52 : Cond.fieldLink "MailParts$Mail" 27 "MailParts$Mail" "lines" "I" ∈ lw_tbl := xm_1 (List.mem_of_getElem? (i := 52) rfl)
theorem kw_53 : Cond.fieldLinkNest "MailParts" 119 "MailParts$Mail" "lines" "I" "MailParts" ∈ lw_tbl := xm_1 (List.mem_of_getElem? (i := 53) rfl)
theorem kw_54 : Cond.laysFinal "MailParts$Mail" "MailParts$Mail" "bytes" "LMailParts$Row;" ∈ lw_tbl := xm_1 (List.mem_of_getElem? (i := 54) rfl)
theorem kw_56 : Cond.laysFinal "MailParts$Mail" "MailParts$Mail" "starts" "[I" ∈ lw_tbl := xm_1 (List.mem_of_getElem? (i := 56) rfl)
theorem kw_58 : Cond.laysFinal "MailParts$Mail" "MailParts$Mail" "stops" "[I" ∈ lw_tbl := xm_1 (List.mem_of_getElem? (i := 58) rfl)
theorem kw_60 : Cond.lays "MailParts$Mail" "MailParts$Mail" "lines" "I" ∈ lw_tbl := xm_1 (List.mem_of_getElem? (i := 60) rfl)
theorem kw_63 : Cond.classLink "MailParts" 28 "MailParts$Value" ∈ lw_tbl := xm_1 (List.mem_of_getElem? (i := 63) rfl)
theorem kw_64 : Cond.instantiable "MailParts$Value" 1 ∈ lw_tbl := xm_1 (List.mem_of_getElem? (i := 64) rfl)
theorem kw_65 : Cond.methodLink "MailParts" 30 y_Va_init ∈ lw_tbl := xm_1 (List.mem_of_getElem? (i := 65) rfl)
theorem kw_66 : Cond.instanceMethod y_Va_init ∈ lw_tbl := xm_1 (List.mem_of_getElem? (i := 66) rfl)
theorem kw_67 : Cond.code y_Va_init prog_5_method_1_code 1 none ∈ lw_tbl := xm_1 (List.mem_of_getElem? (i := 67) rfl)
theorem kw_68 : Cond.methodLink "MailParts$Value" 3 ⟨"java/lang/Object", "<init>", "()V"⟩ ∈ lw_tbl := xm_1 (List.mem_of_getElem? (i := 68) rfl)
theorem kw_69 : Cond.classLink "MailParts$Value" 9 "MailParts$Row" ∈ lw_tbl := xm_1 (List.mem_of_getElem? (i := 69) rfl)
theorem kw_70 : Cond.methodLink "MailParts$Value" 11 y_Ro_init ∈ lw_tbl := xm_1 (List.mem_of_getElem? (i := 70) rfl)
theorem kw_71 : Cond.fieldLink "MailParts$Value" 14 "MailParts$Value" "bytes" "LMailParts$Row;" ∈ lw_tbl := xm_1 (List.mem_of_getElem? (i := 71) rfl)
theorem kw_72 : Cond.fieldLinkNest "MailParts" 178 "MailParts$Value" "bytes" "LMailParts$Row;" "MailParts" ∈ lw_tbl := xm_1 (List.mem_of_getElem? (i := 72) rfl)
theorem kw_73 : Cond.laysFinal "MailParts$Value" "MailParts$Value" "bytes" "LMailParts$Row;" ∈ lw_tbl := xm_1 (List.mem_of_getElem? (i := 73) rfl)
theorem kw_76 : Cond.stringRef "MailParts" 35 "content-type" ∈ lw_tbl := xm_1 (List.mem_of_getElem? (i := 76) rfl)
theorem kw_77 : Cond.methodLink "MailParts" 37 y_Mp_rowOf ∈ lw_tbl := xm_1 (List.mem_of_getElem? (i := 77) rfl)
theorem kw_78 : Cond.static y_Mp_rowOf ∈ lw_tbl := xm_1 (List.mem_of_getElem? (i := 78) rfl)
theorem kw_79 : Cond.code y_Mp_rowOf prog_1_method_29_code 2 (some (FieldType.object "MailParts$Row")) ∈ lw_tbl := xm_1 (List.mem_of_getElem? (i := 79) rfl)
theorem kw_80 : Cond.methodLink "MailParts" 305 ⟨"java/lang/String", "length", "()I"⟩ ∈ lw_tbl := xm_1 (List.mem_of_getElem? (i := 80) rfl)
theorem kw_81 : Cond.instanceMethod ⟨"java/lang/String", "length", "()I"⟩ ∈ lw_tbl := xm_1 (List.mem_of_getElem? (i := 81) rfl)
theorem kw_82 : Cond.selects "java/lang/String" ⟨"java/lang/String", "length", "()I"⟩ ⟨"java/lang/String", "length", "()I"⟩ ∈ lw_tbl := xm_1 (List.mem_of_getElem? (i := 82) rfl)
theorem kw_83 : Cond.code ⟨"java/lang/String", "length", "()I"⟩ prog_9_method_54_code 1 (some FieldType.int) ∈ lw_tbl := xm_1 (List.mem_of_getElem? (i := 83) rfl)
theorem kw_84 : Cond.methodLink "java/lang/String" 335 ⟨"java/lang/String", "coder", "()B"⟩ ∈ lw_tbl := xm_1 (List.mem_of_getElem? (i := 84) rfl)
theorem kw_85 : Cond.instanceMethod ⟨"java/lang/String", "coder", "()B"⟩ ∈ lw_tbl := xm_1 (List.mem_of_getElem? (i := 85) rfl)
theorem kw_86 : Cond.selects "java/lang/String" ⟨"java/lang/String", "coder", "()B"⟩ ⟨"java/lang/String", "coder", "()B"⟩ ∈ lw_tbl := xm_1 (List.mem_of_getElem? (i := 86) rfl)
theorem kw_87 : Cond.code ⟨"java/lang/String", "coder", "()B"⟩ prog_9_method_152_code 1 (some FieldType.byte) ∈ lw_tbl := xm_1 (List.mem_of_getElem? (i := 87) rfl)
theorem kw_88 : Cond.fieldLink "java/lang/String" 38 "java/lang/String" "COMPACT_STRINGS" "Z" ∈ lw_tbl := xm_1 (List.mem_of_getElem? (i := 88) rfl)
theorem kw_89 : Cond.laysStatic "java/lang/String" "COMPACT_STRINGS" "Z" ∈ lw_tbl := xm_1 (List.mem_of_getElem? (i := 89) rfl)
theorem kw_90 : Cond.methodLink "MailParts" 298 y_Ro_put ∈ lw_tbl := xm_1 (List.mem_of_getElem? (i := 90) rfl)
theorem kw_91 : Cond.instanceMethod y_Ro_put ∈ lw_tbl := xm_1 (List.mem_of_getElem? (i := 91) rfl)
theorem kw_92 : Cond.selects "MailParts$Row" y_Ro_put y_Ro_put ∈ lw_tbl := xm_1 (List.mem_of_getElem? (i := 92) rfl)
theorem kw_93 : Cond.code y_Ro_put prog_4_method_8_code 3 none ∈ lw_tbl := xm_1 (List.mem_of_getElem? (i := 93) rfl)
theorem kw_94 : Cond.methodLink "MailParts$Row" 36 y_Ro_clear ∈ lw_tbl := xm_1 (List.mem_of_getElem? (i := 94) rfl)
theorem kw_95 : Cond.instanceMethod y_Ro_clear ∈ lw_tbl := xm_1 (List.mem_of_getElem? (i := 95) rfl)
theorem kw_96 : Cond.selects "MailParts$Row" y_Ro_clear y_Ro_clear ∈ lw_tbl := xm_1 (List.mem_of_getElem? (i := 96) rfl)
theorem kw_97 : Cond.code y_Ro_clear prog_4_method_3_code 1 none ∈ lw_tbl := xm_1 (List.mem_of_getElem? (i := 97) rfl)
theorem kw_98 : Cond.methodLink "MailParts$Row" 39 ⟨"java/lang/String", "length", "()I"⟩ ∈ lw_tbl := xm_1 (List.mem_of_getElem? (i := 98) rfl)
theorem kw_99 : Cond.methodLink "MailParts$Row" 45 ⟨"java/lang/String", "charAt", "(I)C"⟩ ∈ lw_tbl := xm_1 (List.mem_of_getElem? (i := 99) rfl)
theorem kw_100 : Cond.instanceMethod ⟨"java/lang/String", "charAt", "(I)C"⟩ ∈ lw_tbl := xm_1 (List.mem_of_getElem? (i := 100) rfl)
theorem kw_101 : Cond.selects "java/lang/String" ⟨"java/lang/String", "charAt", "(I)C"⟩ ⟨"java/lang/String", "charAt", "(I)C"⟩ ∈ lw_tbl := xm_1 (List.mem_of_getElem? (i := 101) rfl)
theorem kw_102 : Cond.code ⟨"java/lang/String", "charAt", "(I)C"⟩ prog_9_method_56_code 2 (some FieldType.char) ∈ lw_tbl := xm_1 (List.mem_of_getElem? (i := 102) rfl)
theorem kw_103 : Cond.methodLink "java/lang/String" 492 ⟨"java/lang/String", "isLatin1", "()Z"⟩ ∈ lw_tbl := xm_1 (List.mem_of_getElem? (i := 103) rfl)
theorem kw_104 : Cond.instanceMethod ⟨"java/lang/String", "isLatin1", "()Z"⟩ ∈ lw_tbl := xm_1 (List.mem_of_getElem? (i := 104) rfl)
theorem kw_105 : Cond.selects "java/lang/String" ⟨"java/lang/String", "isLatin1", "()Z"⟩ ⟨"java/lang/String", "isLatin1", "()Z"⟩ ∈ lw_tbl := xm_1 (List.mem_of_getElem? (i := 105) rfl)
theorem kw_106 : Cond.code ⟨"java/lang/String", "isLatin1", "()Z"⟩ prog_9_method_154_code 1 (some FieldType.boolean) ∈ lw_tbl := xm_1 (List.mem_of_getElem? (i := 106) rfl)
theorem kw_107 : Cond.methodLink "java/lang/String" 495 ⟨"java/lang/StringLatin1", "charAt", "([BI)C"⟩ ∈ lw_tbl := xm_1 (List.mem_of_getElem? (i := 107) rfl)
theorem kw_108 : Cond.static ⟨"java/lang/StringLatin1", "charAt", "([BI)C"⟩ ∈ lw_tbl := xm_1 (List.mem_of_getElem? (i := 108) rfl)
theorem kw_109 : Cond.code ⟨"java/lang/StringLatin1", "charAt", "([BI)C"⟩ prog_10_method_2_code 2 (some FieldType.char) ∈ lw_tbl := xm_1 (List.mem_of_getElem? (i := 109) rfl)
theorem kw_110 : Cond.methodLink "java/lang/StringLatin1" 9 ⟨"java/lang/String", "checkIndex", "(II)V"⟩ ∈ lw_tbl := xm_1 (List.mem_of_getElem? (i := 110) rfl)
theorem kw_111 : Cond.static ⟨"java/lang/String", "checkIndex", "(II)V"⟩ ∈ lw_tbl := xm_1 (List.mem_of_getElem? (i := 111) rfl)
theorem kw_112 : Cond.code ⟨"java/lang/String", "checkIndex", "(II)V"⟩ prog_9_method_155_code 2 none ∈ lw_tbl := xm_1 (List.mem_of_getElem? (i := 112) rfl)
theorem kw_113 : Cond.fieldLink "java/lang/String" 1053 "jdk/internal/util/Preconditions" "SIOOBE_FORMATTER" "Ljava/util/function/BiFunction;" ∈ lw_tbl := xm_1 (List.mem_of_getElem? (i := 113) rfl)
theorem kw_114 : Cond.laysStatic "jdk/internal/util/Preconditions" "SIOOBE_FORMATTER" "Ljava/util/function/BiFunction;" ∈ lw_tbl := xm_1 (List.mem_of_getElem? (i := 114) rfl)
theorem kw_115 : Cond.methodLink "java/lang/String" 1059 ⟨"jdk/internal/util/Preconditions", "checkIndex", "(IILjava/util/function/BiFunction;)I"⟩ ∈ lw_tbl := xm_1 (List.mem_of_getElem? (i := 115) rfl)
theorem kw_116 : Cond.static ⟨"jdk/internal/util/Preconditions", "checkIndex", "(IILjava/util/function/BiFunction;)I"⟩ ∈ lw_tbl := xm_1 (List.mem_of_getElem? (i := 116) rfl)
theorem kw_117 : Cond.code ⟨"jdk/internal/util/Preconditions", "checkIndex", "(IILjava/util/function/BiFunction;)I"⟩ prog_12_method_11_code 3 (some FieldType.int) ∈ lw_tbl := xm_1 (List.mem_of_getElem? (i := 117) rfl)
theorem kw_118 : Cond.methodLink "java/lang/String" 498 ⟨"java/lang/StringUTF16", "charAt", "([BI)C"⟩ ∈ lw_tbl := xm_1 (List.mem_of_getElem? (i := 118) rfl)
theorem kw_119 : Cond.static ⟨"java/lang/StringUTF16", "charAt", "([BI)C"⟩ ∈ lw_tbl := xm_1 (List.mem_of_getElem? (i := 119) rfl)
theorem kw_120 : Cond.code ⟨"java/lang/StringUTF16", "charAt", "([BI)C"⟩ prog_11_method_83_code 2 (some FieldType.char) ∈ lw_tbl := xm_1 (List.mem_of_getElem? (i := 120) rfl)
theorem kw_121 : Cond.methodLink "java/lang/StringUTF16" 67 ⟨"java/lang/StringUTF16", "checkIndex", "(I[B)V"⟩ ∈ lw_tbl := xm_1 (List.mem_of_getElem? (i := 121) rfl)
theorem kw_122 : Cond.static ⟨"java/lang/StringUTF16", "checkIndex", "(I[B)V"⟩ ∈ lw_tbl := xm_1 (List.mem_of_getElem? (i := 122) rfl)
theorem kw_123 : Cond.code ⟨"java/lang/StringUTF16", "checkIndex", "(I[B)V"⟩ prog_11_method_91_code 2 none ∈ lw_tbl := xm_1 (List.mem_of_getElem? (i := 123) rfl)
theorem kw_124 : Cond.methodLink "java/lang/StringUTF16" 48 ⟨"java/lang/StringUTF16", "length", "([B)I"⟩ ∈ lw_tbl := xm_1 (List.mem_of_getElem? (i := 124) rfl)
theorem kw_125 : Cond.static ⟨"java/lang/StringUTF16", "length", "([B)I"⟩ ∈ lw_tbl := xm_1 (List.mem_of_getElem? (i := 125) rfl)
theorem kw_126 : Cond.code ⟨"java/lang/StringUTF16", "length", "([B)I"⟩ prog_11_method_6_code 1 (some FieldType.int) ∈ lw_tbl := xm_1 (List.mem_of_getElem? (i := 126) rfl)
theorem kw_127 : Cond.methodLink "java/lang/StringUTF16" 414 ⟨"java/lang/String", "checkIndex", "(II)V"⟩ ∈ lw_tbl := xm_1 (List.mem_of_getElem? (i := 127) rfl)
theorem kw_128 : Cond.methodLink "java/lang/StringUTF16" 71 ⟨"java/lang/StringUTF16", "getChar", "([BI)C"⟩ ∈ lw_tbl := xm_1 (List.mem_of_getElem? (i := 128) rfl)
theorem kw_129 : Cond.static ⟨"java/lang/StringUTF16", "getChar", "([BI)C"⟩ ∈ lw_tbl := xm_1 (List.mem_of_getElem? (i := 129) rfl)
theorem kw_130 : Cond.code ⟨"java/lang/StringUTF16", "getChar", "([BI)C"⟩ prog_11_method_5_code 2 (some FieldType.char) ∈ lw_tbl := xm_1 (List.mem_of_getElem? (i := 130) rfl)
theorem kw_131 : Cond.fieldLink "java/lang/StringUTF16" 44 "java/lang/StringUTF16" "$assertionsDisabled" "Z" ∈ lw_tbl := xm_1 (List.mem_of_getElem? (i := 131) rfl)
theorem kw_132 : Cond.laysStatic "java/lang/StringUTF16" "$assertionsDisabled" "Z" ∈ lw_tbl := xm_1 (List.mem_of_getElem? (i := 132) rfl)
theorem kw_133 : Cond.fieldLink "java/lang/StringUTF16" 59 "java/lang/StringUTF16" "HI_BYTE_SHIFT" "I" ∈ lw_tbl := xm_1 (List.mem_of_getElem? (i := 133) rfl)
theorem kw_134 : Cond.laysStatic "java/lang/StringUTF16" "HI_BYTE_SHIFT" "I" ∈ lw_tbl := xm_1 (List.mem_of_getElem? (i := 134) rfl)
theorem kw_135 : Cond.fieldLink "java/lang/StringUTF16" 63 "java/lang/StringUTF16" "LO_BYTE_SHIFT" "I" ∈ lw_tbl := xm_1 (List.mem_of_getElem? (i := 135) rfl)
theorem kw_136 : Cond.laysStatic "java/lang/StringUTF16" "LO_BYTE_SHIFT" "I" ∈ lw_tbl := xm_1 (List.mem_of_getElem? (i := 136) rfl)
theorem kw_137 : Cond.methodLink "MailParts$Row" 32 y_Ro_add ∈ lw_tbl := xm_1 (List.mem_of_getElem? (i := 137) rfl)
theorem kw_138 : Cond.instanceMethod y_Ro_add ∈ lw_tbl := xm_1 (List.mem_of_getElem? (i := 138) rfl)
theorem kw_139 : Cond.selects "MailParts$Row" y_Ro_add y_Ro_add ∈ lw_tbl := xm_1 (List.mem_of_getElem? (i := 139) rfl)
theorem kw_140 : Cond.code y_Ro_add prog_4_method_4_code 2 none ∈ lw_tbl := xm_1 (List.mem_of_getElem? (i := 140) rfl)
theorem kw_141 : Cond.stringRef "MailParts" 44 "content-transfer-encoding" ∈ lw_tbl := xm_1 (List.mem_of_getElem? (i := 141) rfl)
theorem kw_142 : Cond.stringRef "MailParts" 49 "content-disposition" ∈ lw_tbl := xm_1 (List.mem_of_getElem? (i := 142) rfl)
theorem kw_143 : Cond.stringRef "MailParts" 54 "boundary" ∈ lw_tbl := xm_1 (List.mem_of_getElem? (i := 143) rfl)
theorem kw_144 : Cond.stringRef "MailParts" 59 "filename" ∈ lw_tbl := xm_1 (List.mem_of_getElem? (i := 144) rfl)
theorem kw_145 : Cond.stringRef "MailParts" 64 "name" ∈ lw_tbl := xm_1 (List.mem_of_getElem? (i := 145) rfl)
theorem kw_146 : Cond.classLink "MailParts" 69 "MailParts$Entity" ∈ lw_tbl := xm_1 (List.mem_of_getElem? (i := 146) rfl)
theorem kw_147 : Cond.arrayOver (FieldType.object "MailParts$Entity") ∈ lw_tbl := xm_1 (List.mem_of_getElem? (i := 147) rfl)
theorem kw_148 : Cond.instantiable "MailParts$Entity" 17 ∈ lw_tbl := xm_1 (List.mem_of_getElem? (i := 148) rfl)
theorem kw_149 : Cond.methodLinkNest "MailParts" 75 y_En_init "MailParts" ∈ lw_tbl := xm_1 (List.mem_of_getElem? (i := 149) rfl)
theorem kw_150 : Cond.instanceMethod y_En_init ∈ lw_tbl := xm_1 (List.mem_of_getElem? (i := 150) rfl)
theorem kw_151 : Cond.code y_En_init prog_2_method_1_code 1 none ∈ lw_tbl := xm_1 (List.mem_of_getElem? (i := 151) rfl)
theorem kw_152 : Cond.methodLink "MailParts$Entity" 1 ⟨"java/lang/Object", "<init>", "()V"⟩ ∈ lw_tbl := xm_1 (List.mem_of_getElem? (i := 152) rfl)
theorem kw_153 : Cond.fieldLinkNest "MailParts" 136 "MailParts$Entity" "kind" "I" "MailParts" ∈ lw_tbl := xm_1 (List.mem_of_getElem? (i := 153) rfl)
theorem kw_154 : Cond.fieldLinkNest "MailParts" 139 "MailParts$Entity" "in" "I" "MailParts" ∈ lw_tbl := xm_1 (List.mem_of_getElem? (i := 154) rfl)
theorem kw_155 : Cond.fieldLinkNest "MailParts" 142 "MailParts$Entity" "deep" "I" "MailParts" ∈ lw_tbl := xm_1 (List.mem_of_getElem? (i := 155) rfl)
theorem kw_156 : Cond.fieldLinkNest "MailParts" 145 "MailParts$Entity" "hung" "Z" "MailParts" ∈ lw_tbl := xm_1 (List.mem_of_getElem? (i := 156) rfl)
theorem kw_157 : Cond.fieldLinkNest "MailParts" 149 "MailParts$Entity" "from" "I" "MailParts" ∈ lw_tbl := xm_1 (List.mem_of_getElem? (i := 157) rfl)
theorem kw_158 : Cond.fieldLinkNest "MailParts" 164 "MailParts$Entity" "headTo" "I" "MailParts" ∈ lw_tbl := xm_1 (List.mem_of_getElem? (i := 158) rfl)
theorem kw_159 : Cond.fieldLinkNest "MailParts" 155 "MailParts$Entity" "bodyFrom" "I" "MailParts" ∈ lw_tbl := xm_1 (List.mem_of_getElem? (i := 159) rfl)
theorem kw_160 : Cond.fieldLinkNest "MailParts" 158 "MailParts$Entity" "to" "I" "MailParts" ∈ lw_tbl := xm_1 (List.mem_of_getElem? (i := 160) rfl)
theorem kw_161 : Cond.fieldLinkNest "MailParts" 167 "MailParts$Entity" "parts" "I" "MailParts" ∈ lw_tbl := xm_1 (List.mem_of_getElem? (i := 161) rfl)
theorem kw_162 : Cond.fieldLinkNest "MailParts" 199 "MailParts$Entity" "fields" "I" "MailParts" ∈ lw_tbl := xm_1 (List.mem_of_getElem? (i := 162) rfl)
theorem kw_163 : Cond.fieldLinkNest "MailParts" 248 "MailParts$Entity" "alternative" "Z" "MailParts" ∈ lw_tbl := xm_1 (List.mem_of_getElem? (i := 163) rfl)
theorem kw_164 : Cond.fieldLinkNest "MailParts" 253 "MailParts$Entity" "digest" "Z" "MailParts" ∈ lw_tbl := xm_1 (List.mem_of_getElem? (i := 164) rfl)
theorem kw_165 : Cond.fieldLinkNest "MailParts" 274 "MailParts$Entity" "hangs" "Z" "MailParts" ∈ lw_tbl := xm_1 (List.mem_of_getElem? (i := 165) rfl)
theorem kw_166 : Cond.fieldLinkNest "MailParts" 268 "MailParts$Entity" "hasTexts" "Z" "MailParts" ∈ lw_tbl := xm_1 (List.mem_of_getElem? (i := 166) rfl)
theorem kw_167 : Cond.fieldLinkNest "MailParts" 271 "MailParts$Entity" "hasHtml" "Z" "MailParts" ∈ lw_tbl := xm_1 (List.mem_of_getElem? (i := 167) rfl)
theorem kw_168 : Cond.fieldLinkNest "MailParts" 277 "MailParts$Entity" "chosen" "I" "MailParts" ∈ lw_tbl := xm_1 (List.mem_of_getElem? (i := 168) rfl)
theorem kw_169 : Cond.fieldLinkNest "MailParts" 286 "MailParts$Entity" "taken" "Z" "MailParts" ∈ lw_tbl := xm_1 (List.mem_of_getElem? (i := 169) rfl)
theorem kw_170 : Cond.lays "MailParts$Entity" "MailParts$Entity" "kind" "I" ∈ lw_tbl := xm_1 (List.mem_of_getElem? (i := 170) rfl)
theorem kw_172 : Cond.lays "MailParts$Entity" "MailParts$Entity" "in" "I" ∈ lw_tbl := xm_1 (List.mem_of_getElem? (i := 172) rfl)
theorem kw_174 : Cond.lays "MailParts$Entity" "MailParts$Entity" "deep" "I" ∈ lw_tbl := xm_1 (List.mem_of_getElem? (i := 174) rfl)
theorem kw_176 : Cond.lays "MailParts$Entity" "MailParts$Entity" "hung" "Z" ∈ lw_tbl := xm_1 (List.mem_of_getElem? (i := 176) rfl)
theorem kw_178 : Cond.lays "MailParts$Entity" "MailParts$Entity" "from" "I" ∈ lw_tbl := xm_1 (List.mem_of_getElem? (i := 178) rfl)
theorem kw_180 : Cond.lays "MailParts$Entity" "MailParts$Entity" "headTo" "I" ∈ lw_tbl := xm_1 (List.mem_of_getElem? (i := 180) rfl)
theorem kw_182 : Cond.lays "MailParts$Entity" "MailParts$Entity" "bodyFrom" "I" ∈ lw_tbl := xm_1 (List.mem_of_getElem? (i := 182) rfl)
theorem kw_184 : Cond.lays "MailParts$Entity" "MailParts$Entity" "to" "I" ∈ lw_tbl := xm_1 (List.mem_of_getElem? (i := 184) rfl)
theorem kw_186 : Cond.lays "MailParts$Entity" "MailParts$Entity" "parts" "I" ∈ lw_tbl := xm_1 (List.mem_of_getElem? (i := 186) rfl)
theorem kw_188 : Cond.lays "MailParts$Entity" "MailParts$Entity" "fields" "I" ∈ lw_tbl := xm_1 (List.mem_of_getElem? (i := 188) rfl)
theorem kw_190 : Cond.lays "MailParts$Entity" "MailParts$Entity" "alternative" "Z" ∈ lw_tbl := xm_1 (List.mem_of_getElem? (i := 190) rfl)
theorem kw_192 : Cond.lays "MailParts$Entity" "MailParts$Entity" "digest" "Z" ∈ lw_tbl := xm_1 (List.mem_of_getElem? (i := 192) rfl)
theorem kw_194 : Cond.lays "MailParts$Entity" "MailParts$Entity" "hangs" "Z" ∈ lw_tbl := xm_1 (List.mem_of_getElem? (i := 194) rfl)
theorem kw_196 : Cond.lays "MailParts$Entity" "MailParts$Entity" "hasTexts" "Z" ∈ lw_tbl := xm_1 (List.mem_of_getElem? (i := 196) rfl)
theorem kw_198 : Cond.lays "MailParts$Entity" "MailParts$Entity" "hasHtml" "Z" ∈ lw_tbl := xm_1 (List.mem_of_getElem? (i := 198) rfl)
theorem kw_200 : Cond.lays "MailParts$Entity" "MailParts$Entity" "chosen" "I" ∈ lw_tbl := xm_1 (List.mem_of_getElem? (i := 200) rfl)
theorem kw_202 : Cond.lays "MailParts$Entity" "MailParts$Entity" "taken" "Z" ∈ lw_tbl := xm_1 (List.mem_of_getElem? (i := 202) rfl)
theorem kw_205 : Cond.arrayClass FieldType.byte ∈ lw_tbl := xm_1 (List.mem_of_getElem? (i := 205) rfl)
theorem kw_206 : Cond.arrayOver (FieldType.object "MailParts$Row") ∈ lw_tbl := xm_1 (List.mem_of_getElem? (i := 206) rfl)
theorem kw_207 : Cond.fieldLink "MailParts" 14 "MailParts" "ready" "LMailParts$Row;" ∈ lw_tbl := xm_1 (List.mem_of_getElem? (i := 207) rfl)
theorem kw_208 : Cond.fieldLink "MailParts" 18 "MailParts" "tape" "LMailParts$Row;" ∈ lw_tbl := xm_1 (List.mem_of_getElem? (i := 208) rfl)
theorem kw_209 : Cond.fieldLink "MailParts" 24 "MailParts" "mail" "LMailParts$Mail;" ∈ lw_tbl := xm_1 (List.mem_of_getElem? (i := 209) rfl)
theorem kw_210 : Cond.fieldLink "MailParts" 31 "MailParts" "value" "LMailParts$Value;" ∈ lw_tbl := xm_1 (List.mem_of_getElem? (i := 210) rfl)
theorem kw_211 : Cond.fieldLink "MailParts" 41 "MailParts" "typeField" "LMailParts$Row;" ∈ lw_tbl := xm_1 (List.mem_of_getElem? (i := 211) rfl)
theorem kw_212 : Cond.fieldLink "MailParts" 46 "MailParts" "codingField" "LMailParts$Row;" ∈ lw_tbl := xm_1 (List.mem_of_getElem? (i := 212) rfl)
theorem kw_213 : Cond.fieldLink "MailParts" 51 "MailParts" "dispositionField" "LMailParts$Row;" ∈ lw_tbl := xm_1 (List.mem_of_getElem? (i := 213) rfl)
theorem kw_214 : Cond.fieldLink "MailParts" 56 "MailParts" "boundaryName" "LMailParts$Row;" ∈ lw_tbl := xm_1 (List.mem_of_getElem? (i := 214) rfl)
theorem kw_215 : Cond.fieldLink "MailParts" 61 "MailParts" "filenameName" "LMailParts$Row;" ∈ lw_tbl := xm_1 (List.mem_of_getElem? (i := 215) rfl)
theorem kw_216 : Cond.fieldLink "MailParts" 66 "MailParts" "nameName" "LMailParts$Row;" ∈ lw_tbl := xm_1 (List.mem_of_getElem? (i := 216) rfl)
theorem kw_217 : Cond.fieldLink "MailParts" 71 "MailParts" "entities" "[LMailParts$Entity;" ∈ lw_tbl := xm_1 (List.mem_of_getElem? (i := 217) rfl)
theorem kw_218 : Cond.fieldLink "MailParts" 76 "MailParts" "boundaries" "[LMailParts$Row;" ∈ lw_tbl := xm_1 (List.mem_of_getElem? (i := 218) rfl)
theorem kw_219 : Cond.fieldLink "MailParts" 80 "MailParts" "textLeaves" "LMailParts$Row;" ∈ lw_tbl := xm_1 (List.mem_of_getElem? (i := 219) rfl)
theorem kw_220 : Cond.fieldLink "MailParts" 83 "MailParts" "hangingLeaves" "LMailParts$Row;" ∈ lw_tbl := xm_1 (List.mem_of_getElem? (i := 220) rfl)
theorem kw_221 : Cond.fieldLink "MailParts" 86 "MailParts" "made" "I" ∈ lw_tbl := xm_1 (List.mem_of_getElem? (i := 221) rfl)
theorem kw_222 : Cond.fieldLink "MailParts" 90 "MailParts" "lost" "I" ∈ lw_tbl := xm_1 (List.mem_of_getElem? (i := 222) rfl)
theorem kw_223 : Cond.laysFinal "MailParts" "MailParts" "ready" "LMailParts$Row;" ∈ lw_tbl := xm_1 (List.mem_of_getElem? (i := 223) rfl)
theorem kw_225 : Cond.laysFinal "MailParts" "MailParts" "tape" "LMailParts$Row;" ∈ lw_tbl := xm_1 (List.mem_of_getElem? (i := 225) rfl)
theorem kw_227 : Cond.laysFinal "MailParts" "MailParts" "mail" "LMailParts$Mail;" ∈ lw_tbl := xm_1 (List.mem_of_getElem? (i := 227) rfl)
theorem kw_229 : Cond.laysFinal "MailParts" "MailParts" "value" "LMailParts$Value;" ∈ lw_tbl := xm_1 (List.mem_of_getElem? (i := 229) rfl)
theorem kw_231 : Cond.laysFinal "MailParts" "MailParts" "typeField" "LMailParts$Row;" ∈ lw_tbl := xm_1 (List.mem_of_getElem? (i := 231) rfl)
theorem kw_233 : Cond.laysFinal "MailParts" "MailParts" "codingField" "LMailParts$Row;" ∈ lw_tbl := xm_1 (List.mem_of_getElem? (i := 233) rfl)
theorem kw_235 : Cond.laysFinal "MailParts" "MailParts" "dispositionField" "LMailParts$Row;" ∈ lw_tbl := xm_1 (List.mem_of_getElem? (i := 235) rfl)
theorem kw_237 : Cond.laysFinal "MailParts" "MailParts" "boundaryName" "LMailParts$Row;" ∈ lw_tbl := xm_1 (List.mem_of_getElem? (i := 237) rfl)
theorem kw_239 : Cond.laysFinal "MailParts" "MailParts" "filenameName" "LMailParts$Row;" ∈ lw_tbl := xm_1 (List.mem_of_getElem? (i := 239) rfl)
theorem kw_241 : Cond.laysFinal "MailParts" "MailParts" "nameName" "LMailParts$Row;" ∈ lw_tbl := xm_2 (List.mem_of_getElem? (i := 1) rfl)
theorem kw_243 : Cond.laysFinal "MailParts" "MailParts" "entities" "[LMailParts$Entity;" ∈ lw_tbl := xm_2 (List.mem_of_getElem? (i := 3) rfl)
theorem kw_245 : Cond.laysFinal "MailParts" "MailParts" "boundaries" "[LMailParts$Row;" ∈ lw_tbl := xm_2 (List.mem_of_getElem? (i := 5) rfl)
theorem kw_247 : Cond.laysFinal "MailParts" "MailParts" "textLeaves" "LMailParts$Row;" ∈ lw_tbl := xm_2 (List.mem_of_getElem? (i := 7) rfl)
theorem kw_249 : Cond.laysFinal "MailParts" "MailParts" "hangingLeaves" "LMailParts$Row;" ∈ lw_tbl := xm_2 (List.mem_of_getElem? (i := 9) rfl)
theorem kw_251 : Cond.lays "MailParts" "MailParts" "made" "I" ∈ lw_tbl := xm_2 (List.mem_of_getElem? (i := 11) rfl)
theorem kw_253 : Cond.lays "MailParts" "MailParts" "lost" "I" ∈ lw_tbl := xm_2 (List.mem_of_getElem? (i := 13) rfl)
theorem kw_256 : Cond.methodLink "MailPartsLaw" 13 y_Mp_feed ∈ lw_tbl := xm_2 (List.mem_of_getElem? (i := 16) rfl)
theorem kw_257 : Cond.instanceMethod y_Mp_feed ∈ lw_tbl := xm_2 (List.mem_of_getElem? (i := 17) rfl)
theorem kw_258 : Cond.selects "MailParts" y_Mp_feed y_Mp_feed ∈ lw_tbl := xm_2 (List.mem_of_getElem? (i := 18) rfl)
theorem kw_259 : Cond.code y_Mp_feed prog_1_method_2_code 6 none ∈ lw_tbl := xm_2 (List.mem_of_getElem? (i := 19) rfl)
theorem kw_260 : Cond.methodLink "MailParts" 93 y_Ro_clear ∈ lw_tbl := xm_2 (List.mem_of_getElem? (i := 20) rfl)
theorem kw_261 : Cond.methodLink "MailParts" 96 y_Mp_addWord ∈ lw_tbl := xm_2 (List.mem_of_getElem? (i := 21) rfl)
theorem kw_262 : Cond.privateMethod y_Mp_addWord ∈ lw_tbl := xm_2 (List.mem_of_getElem? (i := 22) rfl)
theorem kw_263 : Cond.instanceMethod y_Mp_addWord ∈ lw_tbl := xm_2 (List.mem_of_getElem? (i := 23) rfl)
theorem kw_264 : Cond.code y_Mp_addWord prog_1_method_14_code 2 none ∈ lw_tbl := xm_2 (List.mem_of_getElem? (i := 24) rfl)
theorem kw_265 : Cond.methodLink "MailParts" 112 y_Ro_add ∈ lw_tbl := xm_2 (List.mem_of_getElem? (i := 25) rfl)
theorem kw_266 : Cond.methodLink "MailPartsLaw" 18 y_Mp_end ∈ lw_tbl := xm_2 (List.mem_of_getElem? (i := 26) rfl)
theorem kw_267 : Cond.instanceMethod y_Mp_end ∈ lw_tbl := xm_2 (List.mem_of_getElem? (i := 27) rfl)
theorem kw_268 : Cond.selects "MailParts" y_Mp_end y_Mp_end ∈ lw_tbl := xm_2 (List.mem_of_getElem? (i := 28) rfl)
theorem kw_269 : Cond.code y_Mp_end prog_1_method_3_code 3 (some FieldType.int) ∈ lw_tbl := xm_2 (List.mem_of_getElem? (i := 29) rfl)
theorem kw_270 : Cond.methodLink "MailParts" 102 y_Ro_get ∈ lw_tbl := xm_2 (List.mem_of_getElem? (i := 30) rfl)
theorem kw_271 : Cond.instanceMethod y_Ro_get ∈ lw_tbl := xm_2 (List.mem_of_getElem? (i := 31) rfl)
theorem kw_272 : Cond.selects "MailParts$Row" y_Ro_get y_Ro_get ∈ lw_tbl := xm_2 (List.mem_of_getElem? (i := 32) rfl)
theorem kw_273 : Cond.code y_Ro_get prog_4_method_2_code 2 (some FieldType.int) ∈ lw_tbl := xm_2 (List.mem_of_getElem? (i := 33) rfl)
theorem kw_274 : Cond.methodLink "MailParts" 106 ⟨"java/lang/Math", "max", "(II)I"⟩ ∈ lw_tbl := xm_2 (List.mem_of_getElem? (i := 34) rfl)
theorem kw_275 : Cond.methodLink "MailPartsLaw" 23 y_Mp_read ∈ lw_tbl := xm_2 (List.mem_of_getElem? (i := 35) rfl)
theorem kw_276 : Cond.instanceMethod y_Mp_read ∈ lw_tbl := xm_2 (List.mem_of_getElem? (i := 36) rfl)
theorem kw_277 : Cond.selects "MailParts" y_Mp_read y_Mp_read ∈ lw_tbl := xm_2 (List.mem_of_getElem? (i := 37) rfl)
theorem kw_278 : Cond.code y_Mp_read prog_1_method_4_code 1 (some FieldType.int) ∈ lw_tbl := xm_2 (List.mem_of_getElem? (i := 38) rfl)
theorem kw_279 : Cond.methodLink "MailParts" 115 y_Ma_take ∈ lw_tbl := xm_2 (List.mem_of_getElem? (i := 39) rfl)
theorem kw_280 : Cond.instanceMethod y_Ma_take ∈ lw_tbl := xm_2 (List.mem_of_getElem? (i := 40) rfl)
theorem kw_281 : Cond.selects "MailParts$Mail" y_Ma_take y_Ma_take ∈ lw_tbl := xm_2 (List.mem_of_getElem? (i := 41) rfl)
theorem kw_282 : Cond.code y_Ma_take prog_3_method_2_code 4 none ∈ lw_tbl := xm_2 (List.mem_of_getElem? (i := 42) rfl)
theorem kw_283 : Cond.methodLink "MailParts$Mail" 31 y_Ro_clear ∈ lw_tbl := xm_2 (List.mem_of_getElem? (i := 43) rfl)
theorem kw_284 : Cond.methodLink "MailParts$Mail" 37 y_Ro_addRange ∈ lw_tbl := xm_2 (List.mem_of_getElem? (i := 44) rfl)
theorem kw_285 : Cond.instanceMethod y_Ro_addRange ∈ lw_tbl := xm_2 (List.mem_of_getElem? (i := 45) rfl)
theorem kw_286 : Cond.selects "MailParts$Row" y_Ro_addRange y_Ro_addRange ∈ lw_tbl := xm_2 (List.mem_of_getElem? (i := 46) rfl)
theorem kw_287 : Cond.code y_Ro_addRange prog_4_method_7_code 5 none ∈ lw_tbl := xm_2 (List.mem_of_getElem? (i := 47) rfl)
theorem kw_288 : Cond.methodLink "MailParts$Row" 28 y_Ro_get ∈ lw_tbl := xm_2 (List.mem_of_getElem? (i := 48) rfl)
theorem kw_289 : Cond.methodLink "MailParts$Mail" 41 y_Ro_get ∈ lw_tbl := xm_2 (List.mem_of_getElem? (i := 49) rfl)
theorem kw_290 : Cond.methodLink "MailParts$Mail" 45 y_Ma_addLine ∈ lw_tbl := xm_2 (List.mem_of_getElem? (i := 50) rfl)
theorem kw_291 : Cond.privateMethod y_Ma_addLine ∈ lw_tbl := xm_2 (List.mem_of_getElem? (i := 51) rfl)
theorem kw_292 : Cond.instanceMethod y_Ma_addLine ∈ lw_tbl := xm_2 (List.mem_of_getElem? (i := 52) rfl)
theorem kw_293 : Cond.code y_Ma_addLine prog_3_method_3_code 3 none ∈ lw_tbl := xm_2 (List.mem_of_getElem? (i := 53) rfl)
theorem kw_294 : Cond.methodLink "MailParts" 122 y_Mp_openEntity ∈ lw_tbl := xm_2 (List.mem_of_getElem? (i := 54) rfl)
theorem kw_295 : Cond.privateMethod y_Mp_openEntity ∈ lw_tbl := xm_2 (List.mem_of_getElem? (i := 55) rfl)
theorem kw_296 : Cond.instanceMethod y_Mp_openEntity ∈ lw_tbl := xm_2 (List.mem_of_getElem? (i := 56) rfl)
theorem kw_297 : Cond.code y_Mp_openEntity prog_1_method_18_code 8 none ∈ lw_tbl := xm_2 (List.mem_of_getElem? (i := 57) rfl)
theorem kw_298 : Cond.methodLink "MailParts" 209 y_Ma_headStop ∈ lw_tbl := xm_2 (List.mem_of_getElem? (i := 58) rfl)
theorem kw_299 : Cond.instanceMethod y_Ma_headStop ∈ lw_tbl := xm_2 (List.mem_of_getElem? (i := 59) rfl)
theorem kw_300 : Cond.selects "MailParts$Mail" y_Ma_headStop y_Ma_headStop ∈ lw_tbl := xm_2 (List.mem_of_getElem? (i := 60) rfl)
theorem kw_301 : Cond.code y_Ma_headStop prog_3_method_9_code 5 (some FieldType.int) ∈ lw_tbl := xm_2 (List.mem_of_getElem? (i := 61) rfl)
theorem kw_302 : Cond.methodLink "MailParts$Mail" 62 y_Ma_beginsBlank ∈ lw_tbl := xm_2 (List.mem_of_getElem? (i := 62) rfl)
theorem kw_303 : Cond.instanceMethod y_Ma_beginsBlank ∈ lw_tbl := xm_2 (List.mem_of_getElem? (i := 63) rfl)
theorem kw_304 : Cond.selects "MailParts$Mail" y_Ma_beginsBlank y_Ma_beginsBlank ∈ lw_tbl := xm_2 (List.mem_of_getElem? (i := 64) rfl)
theorem kw_305 : Cond.code y_Ma_beginsBlank prog_3_method_7_code 2 (some FieldType.boolean) ∈ lw_tbl := xm_2 (List.mem_of_getElem? (i := 65) rfl)
theorem kw_306 : Cond.methodLink "MailParts$Mail" 49 y_Ma_startOf ∈ lw_tbl := xm_2 (List.mem_of_getElem? (i := 66) rfl)
theorem kw_307 : Cond.instanceMethod y_Ma_startOf ∈ lw_tbl := xm_2 (List.mem_of_getElem? (i := 67) rfl)
theorem kw_308 : Cond.selects "MailParts$Mail" y_Ma_startOf y_Ma_startOf ∈ lw_tbl := xm_2 (List.mem_of_getElem? (i := 68) rfl)
theorem kw_309 : Cond.code y_Ma_startOf prog_3_method_4_code 2 (some FieldType.int) ∈ lw_tbl := xm_2 (List.mem_of_getElem? (i := 69) rfl)
theorem kw_310 : Cond.methodLinkNest "MailParts$Mail" 55 y_Mp_isBlank "MailParts" ∈ lw_tbl := xm_2 (List.mem_of_getElem? (i := 70) rfl)
theorem kw_311 : Cond.static y_Mp_isBlank ∈ lw_tbl := xm_2 (List.mem_of_getElem? (i := 71) rfl)
theorem kw_312 : Cond.code y_Mp_isBlank prog_1_method_30_code 1 (some FieldType.boolean) ∈ lw_tbl := xm_2 (List.mem_of_getElem? (i := 72) rfl)
theorem kw_313 : Cond.methodLink "MailParts$Mail" 65 y_Ma_colonOf ∈ lw_tbl := xm_2 (List.mem_of_getElem? (i := 73) rfl)
theorem kw_314 : Cond.instanceMethod y_Ma_colonOf ∈ lw_tbl := xm_2 (List.mem_of_getElem? (i := 74) rfl)
theorem kw_315 : Cond.selects "MailParts$Mail" y_Ma_colonOf y_Ma_colonOf ∈ lw_tbl := xm_2 (List.mem_of_getElem? (i := 75) rfl)
theorem kw_316 : Cond.code y_Ma_colonOf prog_3_method_8_code 6 (some FieldType.int) ∈ lw_tbl := xm_2 (List.mem_of_getElem? (i := 76) rfl)
theorem kw_317 : Cond.methodLink "MailParts$Mail" 52 y_Ma_stopOf ∈ lw_tbl := xm_2 (List.mem_of_getElem? (i := 77) rfl)
theorem kw_318 : Cond.instanceMethod y_Ma_stopOf ∈ lw_tbl := xm_2 (List.mem_of_getElem? (i := 78) rfl)
theorem kw_319 : Cond.selects "MailParts$Mail" y_Ma_stopOf y_Ma_stopOf ∈ lw_tbl := xm_2 (List.mem_of_getElem? (i := 79) rfl)
theorem kw_320 : Cond.code y_Ma_stopOf prog_3_method_5_code 2 (some FieldType.int) ∈ lw_tbl := xm_2 (List.mem_of_getElem? (i := 80) rfl)
theorem kw_321 : Cond.methodLinkNest "MailParts$Mail" 59 y_Mp_isNameByte "MailParts" ∈ lw_tbl := xm_2 (List.mem_of_getElem? (i := 81) rfl)
theorem kw_322 : Cond.static y_Mp_isNameByte ∈ lw_tbl := xm_2 (List.mem_of_getElem? (i := 82) rfl)
theorem kw_323 : Cond.code y_Mp_isNameByte prog_1_method_31_code 1 (some FieldType.boolean) ∈ lw_tbl := xm_2 (List.mem_of_getElem? (i := 83) rfl)
theorem kw_324 : Cond.methodLink "MailParts" 212 y_Ma_isEmptyLine ∈ lw_tbl := xm_2 (List.mem_of_getElem? (i := 84) rfl)
theorem kw_325 : Cond.instanceMethod y_Ma_isEmptyLine ∈ lw_tbl := xm_2 (List.mem_of_getElem? (i := 85) rfl)
theorem kw_326 : Cond.selects "MailParts$Mail" y_Ma_isEmptyLine y_Ma_isEmptyLine ∈ lw_tbl := xm_2 (List.mem_of_getElem? (i := 86) rfl)
theorem kw_327 : Cond.code y_Ma_isEmptyLine prog_3_method_6_code 2 (some FieldType.boolean) ∈ lw_tbl := xm_2 (List.mem_of_getElem? (i := 87) rfl)
theorem kw_328 : Cond.methodLink "MailParts" 132 y_Mp_find ∈ lw_tbl := xm_2 (List.mem_of_getElem? (i := 88) rfl)
theorem kw_329 : Cond.privateMethod y_Mp_find ∈ lw_tbl := xm_2 (List.mem_of_getElem? (i := 89) rfl)
theorem kw_330 : Cond.instanceMethod y_Mp_find ∈ lw_tbl := xm_2 (List.mem_of_getElem? (i := 90) rfl)
theorem kw_331 : Cond.code y_Mp_find prog_1_method_15_code 2 (some (FieldType.object "MailParts$Entity")) ∈ lw_tbl := xm_2 (List.mem_of_getElem? (i := 91) rfl)
theorem kw_332 : Cond.methodLink "MailParts" 216 y_Mp_describe ∈ lw_tbl := xm_2 (List.mem_of_getElem? (i := 92) rfl)
theorem kw_333 : Cond.privateMethod y_Mp_describe ∈ lw_tbl := xm_2 (List.mem_of_getElem? (i := 93) rfl)
theorem kw_334 : Cond.instanceMethod y_Mp_describe ∈ lw_tbl := xm_2 (List.mem_of_getElem? (i := 94) rfl)
theorem kw_335 : Cond.code y_Mp_describe prog_1_method_20_code 6 none ∈ lw_tbl := xm_2 (List.mem_of_getElem? (i := 95) rfl)
theorem kw_336 : Cond.methodLink "MailParts" 228 y_Mp_loadType ∈ lw_tbl := xm_2 (List.mem_of_getElem? (i := 96) rfl)
theorem kw_337 : Cond.privateMethod y_Mp_loadType ∈ lw_tbl := xm_2 (List.mem_of_getElem? (i := 97) rfl)
theorem kw_338 : Cond.instanceMethod y_Mp_loadType ∈ lw_tbl := xm_2 (List.mem_of_getElem? (i := 98) rfl)
theorem kw_339 : Cond.code y_Mp_loadType prog_1_method_26_code 3 none ∈ lw_tbl := xm_2 (List.mem_of_getElem? (i := 99) rfl)
theorem kw_340 : Cond.methodLink "MailParts" 179 y_Mp_loadField ∈ lw_tbl := xm_2 (List.mem_of_getElem? (i := 100) rfl)
theorem kw_341 : Cond.privateMethod y_Mp_loadField ∈ lw_tbl := xm_2 (List.mem_of_getElem? (i := 101) rfl)
theorem kw_342 : Cond.instanceMethod y_Mp_loadField ∈ lw_tbl := xm_2 (List.mem_of_getElem? (i := 102) rfl)
theorem kw_343 : Cond.code y_Mp_loadField prog_1_method_28_code 4 (some FieldType.boolean) ∈ lw_tbl := xm_2 (List.mem_of_getElem? (i := 103) rfl)
theorem kw_344 : Cond.methodLink "MailParts" 205 y_Ma_fieldLine ∈ lw_tbl := xm_2 (List.mem_of_getElem? (i := 104) rfl)
theorem kw_345 : Cond.instanceMethod y_Ma_fieldLine ∈ lw_tbl := xm_2 (List.mem_of_getElem? (i := 105) rfl)
theorem kw_346 : Cond.selects "MailParts$Mail" y_Ma_fieldLine y_Ma_fieldLine ∈ lw_tbl := xm_2 (List.mem_of_getElem? (i := 106) rfl)
theorem kw_347 : Cond.code y_Ma_fieldLine prog_3_method_10_code 7 (some FieldType.int) ∈ lw_tbl := xm_2 (List.mem_of_getElem? (i := 107) rfl)
theorem kw_348 : Cond.methodLink "MailParts$Mail" 68 y_Ro_hasName ∈ lw_tbl := xm_2 (List.mem_of_getElem? (i := 108) rfl)
theorem kw_349 : Cond.instanceMethod y_Ro_hasName ∈ lw_tbl := xm_2 (List.mem_of_getElem? (i := 109) rfl)
theorem kw_350 : Cond.selects "MailParts$Row" y_Ro_hasName y_Ro_hasName ∈ lw_tbl := xm_2 (List.mem_of_getElem? (i := 110) rfl)
theorem kw_351 : Cond.code y_Ro_hasName prog_4_method_11_code 4 (some FieldType.boolean) ∈ lw_tbl := xm_2 (List.mem_of_getElem? (i := 111) rfl)
theorem kw_352 : Cond.methodLinkNest "MailParts$Row" 53 y_Mp_small "MailParts" ∈ lw_tbl := xm_2 (List.mem_of_getElem? (i := 112) rfl)
theorem kw_353 : Cond.static y_Mp_small ∈ lw_tbl := xm_2 (List.mem_of_getElem? (i := 113) rfl)
theorem kw_354 : Cond.code y_Mp_small prog_1_method_32_code 1 (some FieldType.int) ∈ lw_tbl := xm_2 (List.mem_of_getElem? (i := 114) rfl)
theorem kw_355 : Cond.methodLink "MailParts" 302 y_Ma_copyValue ∈ lw_tbl := xm_2 (List.mem_of_getElem? (i := 115) rfl)
theorem kw_356 : Cond.instanceMethod y_Ma_copyValue ∈ lw_tbl := xm_2 (List.mem_of_getElem? (i := 116) rfl)
theorem kw_357 : Cond.selects "MailParts$Mail" y_Ma_copyValue y_Ma_copyValue ∈ lw_tbl := xm_2 (List.mem_of_getElem? (i := 117) rfl)
theorem kw_358 : Cond.code y_Ma_copyValue prog_3_method_11_code 5 none ∈ lw_tbl := xm_2 (List.mem_of_getElem? (i := 118) rfl)
theorem kw_359 : Cond.methodLink "MailParts" 256 y_Va_keepFirstItem ∈ lw_tbl := xm_2 (List.mem_of_getElem? (i := 119) rfl)
theorem kw_360 : Cond.instanceMethod y_Va_keepFirstItem ∈ lw_tbl := xm_2 (List.mem_of_getElem? (i := 120) rfl)
theorem kw_361 : Cond.selects "MailParts$Value" y_Va_keepFirstItem y_Va_keepFirstItem ∈ lw_tbl := xm_2 (List.mem_of_getElem? (i := 121) rfl)
theorem kw_362 : Cond.code y_Va_keepFirstItem prog_5_method_2_code 2 none ∈ lw_tbl := xm_2 (List.mem_of_getElem? (i := 122) rfl)
theorem kw_363 : Cond.methodLink "MailParts$Value" 24 y_Va_find ∈ lw_tbl := xm_2 (List.mem_of_getElem? (i := 123) rfl)
theorem kw_364 : Cond.privateMethod y_Va_find ∈ lw_tbl := xm_2 (List.mem_of_getElem? (i := 124) rfl)
theorem kw_365 : Cond.instanceMethod y_Va_find ∈ lw_tbl := xm_2 (List.mem_of_getElem? (i := 125) rfl)
theorem kw_366 : Cond.code y_Va_find prog_5_method_5_code 7 (some FieldType.int) ∈ lw_tbl := xm_2 (List.mem_of_getElem? (i := 126) rfl)
theorem kw_367 : Cond.methodLink "MailParts$Value" 32 y_Ro_get ∈ lw_tbl := xm_2 (List.mem_of_getElem? (i := 127) rfl)
theorem kw_368 : Cond.methodLink "MailParts$Value" 28 y_Va_keep ∈ lw_tbl := xm_2 (List.mem_of_getElem? (i := 128) rfl)
theorem kw_369 : Cond.privateMethod y_Va_keep ∈ lw_tbl := xm_2 (List.mem_of_getElem? (i := 129) rfl)
theorem kw_370 : Cond.instanceMethod y_Va_keep ∈ lw_tbl := xm_2 (List.mem_of_getElem? (i := 130) rfl)
theorem kw_371 : Cond.code y_Va_keep prog_5_method_9_code 6 none ∈ lw_tbl := xm_2 (List.mem_of_getElem? (i := 131) rfl)
theorem kw_372 : Cond.methodLink "MailParts$Value" 56 y_Va_behindBlanks ∈ lw_tbl := xm_2 (List.mem_of_getElem? (i := 132) rfl)
theorem kw_373 : Cond.privateMethod y_Va_behindBlanks ∈ lw_tbl := xm_2 (List.mem_of_getElem? (i := 133) rfl)
theorem kw_374 : Cond.instanceMethod y_Va_behindBlanks ∈ lw_tbl := xm_2 (List.mem_of_getElem? (i := 134) rfl)
theorem kw_375 : Cond.code y_Va_behindBlanks prog_5_method_7_code 4 (some FieldType.int) ∈ lw_tbl := xm_2 (List.mem_of_getElem? (i := 135) rfl)
theorem kw_376 : Cond.methodLinkNest "MailParts$Value" 52 y_Mp_isBlank "MailParts" ∈ lw_tbl := xm_2 (List.mem_of_getElem? (i := 136) rfl)
theorem kw_377 : Cond.methodLink "MailParts$Value" 60 y_Va_aheadOfBlanks ∈ lw_tbl := xm_2 (List.mem_of_getElem? (i := 137) rfl)
theorem kw_378 : Cond.privateMethod y_Va_aheadOfBlanks ∈ lw_tbl := xm_2 (List.mem_of_getElem? (i := 138) rfl)
theorem kw_379 : Cond.instanceMethod y_Va_aheadOfBlanks ∈ lw_tbl := xm_2 (List.mem_of_getElem? (i := 139) rfl)
theorem kw_380 : Cond.code y_Va_aheadOfBlanks prog_5_method_8_code 4 (some FieldType.int) ∈ lw_tbl := xm_2 (List.mem_of_getElem? (i := 140) rfl)
theorem kw_381 : Cond.methodLink "MailParts$Value" 39 y_Ro_set ∈ lw_tbl := xm_2 (List.mem_of_getElem? (i := 141) rfl)
theorem kw_382 : Cond.instanceMethod y_Ro_set ∈ lw_tbl := xm_2 (List.mem_of_getElem? (i := 142) rfl)
theorem kw_383 : Cond.selects "MailParts$Row" y_Ro_set y_Ro_set ∈ lw_tbl := xm_2 (List.mem_of_getElem? (i := 143) rfl)
theorem kw_384 : Cond.code y_Ro_set prog_4_method_5_code 3 none ∈ lw_tbl := xm_2 (List.mem_of_getElem? (i := 144) rfl)
theorem kw_385 : Cond.methodLink "MailParts$Value" 67 y_Ro_shorten ∈ lw_tbl := xm_2 (List.mem_of_getElem? (i := 145) rfl)
theorem kw_386 : Cond.instanceMethod y_Ro_shorten ∈ lw_tbl := xm_2 (List.mem_of_getElem? (i := 146) rfl)
theorem kw_387 : Cond.selects "MailParts$Row" y_Ro_shorten y_Ro_shorten ∈ lw_tbl := xm_2 (List.mem_of_getElem? (i := 147) rfl)
theorem kw_388 : Cond.code y_Ro_shorten prog_4_method_6_code 2 none ∈ lw_tbl := xm_2 (List.mem_of_getElem? (i := 148) rfl)
theorem kw_389 : Cond.methodLink "MailParts$Row" 25 ⟨"java/lang/Math", "min", "(II)I"⟩ ∈ lw_tbl := xm_2 (List.mem_of_getElem? (i := 149) rfl)
theorem kw_390 : Cond.static ⟨"java/lang/Math", "min", "(II)I"⟩ ∈ lw_tbl := xm_2 (List.mem_of_getElem? (i := 150) rfl)
theorem kw_391 : Cond.code ⟨"java/lang/Math", "min", "(II)I"⟩ prog_8_method_69_code 2 (some FieldType.int) ∈ lw_tbl := xm_2 (List.mem_of_getElem? (i := 151) rfl)
theorem kw_392 : Cond.methodLinkNest "MailParts$Value" 36 y_Mp_small "MailParts" ∈ lw_tbl := xm_2 (List.mem_of_getElem? (i := 152) rfl)
theorem kw_393 : Cond.methodLink "MailParts" 292 y_Va_isType ∈ lw_tbl := xm_2 (List.mem_of_getElem? (i := 153) rfl)
theorem kw_394 : Cond.instanceMethod y_Va_isType ∈ lw_tbl := xm_2 (List.mem_of_getElem? (i := 154) rfl)
theorem kw_395 : Cond.selects "MailParts$Value" y_Va_isType y_Va_isType ∈ lw_tbl := xm_2 (List.mem_of_getElem? (i := 155) rfl)
theorem kw_396 : Cond.code y_Va_isType prog_5_method_4_code 4 (some FieldType.boolean) ∈ lw_tbl := xm_2 (List.mem_of_getElem? (i := 156) rfl)
theorem kw_397 : Cond.stringRef "MailParts" 244 "message/rfc822" ∈ lw_tbl := xm_2 (List.mem_of_getElem? (i := 157) rfl)
theorem kw_398 : Cond.stringRef "MailParts" 296 "text/plain" ∈ lw_tbl := xm_2 (List.mem_of_getElem? (i := 158) rfl)
theorem kw_399 : Cond.stringRef "MailParts" 231 "text/" ∈ lw_tbl := xm_2 (List.mem_of_getElem? (i := 159) rfl)
theorem kw_400 : Cond.methodLink "MailParts" 233 y_Ro_begins ∈ lw_tbl := xm_2 (List.mem_of_getElem? (i := 160) rfl)
theorem kw_401 : Cond.instanceMethod y_Ro_begins ∈ lw_tbl := xm_2 (List.mem_of_getElem? (i := 161) rfl)
theorem kw_402 : Cond.selects "MailParts$Row" y_Ro_begins y_Ro_begins ∈ lw_tbl := xm_2 (List.mem_of_getElem? (i := 162) rfl)
theorem kw_403 : Cond.code y_Ro_begins prog_4_method_9_code 3 (some FieldType.boolean) ∈ lw_tbl := xm_2 (List.mem_of_getElem? (i := 163) rfl)
theorem kw_404 : Cond.stringRef "MailParts" 237 "text/html" ∈ lw_tbl := xm_2 (List.mem_of_getElem? (i := 164) rfl)
theorem kw_405 : Cond.methodLink "MailParts" 239 y_Ro_is ∈ lw_tbl := xm_2 (List.mem_of_getElem? (i := 165) rfl)
theorem kw_406 : Cond.instanceMethod y_Ro_is ∈ lw_tbl := xm_2 (List.mem_of_getElem? (i := 166) rfl)
theorem kw_407 : Cond.selects "MailParts$Row" y_Ro_is y_Ro_is ∈ lw_tbl := xm_2 (List.mem_of_getElem? (i := 167) rfl)
theorem kw_408 : Cond.code y_Ro_is prog_4_method_10_code 2 (some FieldType.boolean) ∈ lw_tbl := xm_2 (List.mem_of_getElem? (i := 168) rfl)
theorem kw_409 : Cond.methodLink "MailParts$Row" 49 y_Ro_begins ∈ lw_tbl := xm_2 (List.mem_of_getElem? (i := 169) rfl)
theorem kw_410 : Cond.stringRef "MailParts" 242 "multipart/" ∈ lw_tbl := xm_2 (List.mem_of_getElem? (i := 170) rfl)
theorem kw_411 : Cond.stringRef "MailParts" 246 "multipart/alternative" ∈ lw_tbl := xm_2 (List.mem_of_getElem? (i := 171) rfl)
theorem kw_412 : Cond.stringRef "MailParts" 251 "multipart/digest" ∈ lw_tbl := xm_2 (List.mem_of_getElem? (i := 172) rfl)
theorem kw_413 : Cond.stringRef "MailParts" 259 "attachment" ∈ lw_tbl := xm_2 (List.mem_of_getElem? (i := 173) rfl)
theorem kw_414 : Cond.methodLink "MailParts" 261 y_Mp_hasBoundary ∈ lw_tbl := xm_2 (List.mem_of_getElem? (i := 174) rfl)
theorem kw_415 : Cond.privateMethod y_Mp_hasBoundary ∈ lw_tbl := xm_2 (List.mem_of_getElem? (i := 175) rfl)
theorem kw_416 : Cond.instanceMethod y_Mp_hasBoundary ∈ lw_tbl := xm_2 (List.mem_of_getElem? (i := 176) rfl)
theorem kw_417 : Cond.code y_Mp_hasBoundary prog_1_method_21_code 3 (some FieldType.boolean) ∈ lw_tbl := xm_2 (List.mem_of_getElem? (i := 177) rfl)
theorem kw_418 : Cond.methodLink "MailParts" 187 y_Va_keepParameter ∈ lw_tbl := xm_2 (List.mem_of_getElem? (i := 178) rfl)
theorem kw_419 : Cond.instanceMethod y_Va_keepParameter ∈ lw_tbl := xm_2 (List.mem_of_getElem? (i := 179) rfl)
theorem kw_420 : Cond.selects "MailParts$Value" y_Va_keepParameter y_Va_keepParameter ∈ lw_tbl := xm_2 (List.mem_of_getElem? (i := 180) rfl)
theorem kw_421 : Cond.code y_Va_keepParameter prog_5_method_3_code 6 (some FieldType.boolean) ∈ lw_tbl := xm_2 (List.mem_of_getElem? (i := 181) rfl)
theorem kw_422 : Cond.methodLink "MailParts$Value" 42 y_Va_isNamed ∈ lw_tbl := xm_2 (List.mem_of_getElem? (i := 182) rfl)
theorem kw_423 : Cond.privateMethod y_Va_isNamed ∈ lw_tbl := xm_2 (List.mem_of_getElem? (i := 183) rfl)
theorem kw_424 : Cond.instanceMethod y_Va_isNamed ∈ lw_tbl := xm_2 (List.mem_of_getElem? (i := 184) rfl)
theorem kw_425 : Cond.code y_Va_isNamed prog_5_method_6_code 5 (some FieldType.boolean) ∈ lw_tbl := xm_2 (List.mem_of_getElem? (i := 185) rfl)
theorem kw_426 : Cond.methodLink "MailParts$Value" 63 y_Ro_hasName ∈ lw_tbl := xm_2 (List.mem_of_getElem? (i := 186) rfl)
theorem kw_427 : Cond.methodLink "MailParts$Value" 46 y_Va_unquote ∈ lw_tbl := xm_2 (List.mem_of_getElem? (i := 187) rfl)
theorem kw_428 : Cond.privateMethod y_Va_unquote ∈ lw_tbl := xm_2 (List.mem_of_getElem? (i := 188) rfl)
theorem kw_429 : Cond.instanceMethod y_Va_unquote ∈ lw_tbl := xm_2 (List.mem_of_getElem? (i := 189) rfl)
theorem kw_430 : Cond.code y_Va_unquote prog_5_method_10_code 4 none ∈ lw_tbl := xm_2 (List.mem_of_getElem? (i := 190) rfl)
theorem kw_431 : Cond.methodLink "MailParts$Value" 70 y_Va_closing ∈ lw_tbl := xm_2 (List.mem_of_getElem? (i := 191) rfl)
theorem kw_432 : Cond.privateMethod y_Va_closing ∈ lw_tbl := xm_2 (List.mem_of_getElem? (i := 192) rfl)
theorem kw_433 : Cond.instanceMethod y_Va_closing ∈ lw_tbl := xm_2 (List.mem_of_getElem? (i := 193) rfl)
theorem kw_434 : Cond.code y_Va_closing prog_5_method_11_code 3 (some FieldType.int) ∈ lw_tbl := xm_2 (List.mem_of_getElem? (i := 194) rfl)
theorem kw_435 : Cond.methodLink "MailParts$Value" 49 y_Ro_clear ∈ lw_tbl := xm_2 (List.mem_of_getElem? (i := 195) rfl)
theorem kw_436 : Cond.methodLink "MailParts" 195 y_Ro_addRange ∈ lw_tbl := xm_2 (List.mem_of_getElem? (i := 196) rfl)
theorem kw_437 : Cond.methodLink "MailParts" 265 y_Mp_isOpenCoding ∈ lw_tbl := xm_2 (List.mem_of_getElem? (i := 197) rfl)
theorem kw_438 : Cond.privateMethod y_Mp_isOpenCoding ∈ lw_tbl := xm_2 (List.mem_of_getElem? (i := 198) rfl)
theorem kw_439 : Cond.instanceMethod y_Mp_isOpenCoding ∈ lw_tbl := xm_2 (List.mem_of_getElem? (i := 199) rfl)
theorem kw_440 : Cond.code y_Mp_isOpenCoding prog_1_method_22_code 3 (some FieldType.boolean) ∈ lw_tbl := xm_2 (List.mem_of_getElem? (i := 200) rfl)
theorem kw_441 : Cond.stringRef "MailParts" 280 "7bit" ∈ lw_tbl := xm_2 (List.mem_of_getElem? (i := 201) rfl)
theorem kw_442 : Cond.stringRef "MailParts" 282 "8bit" ∈ lw_tbl := xm_2 (List.mem_of_getElem? (i := 202) rfl)
theorem kw_443 : Cond.stringRef "MailParts" 284 "binary" ∈ lw_tbl := xm_2 (List.mem_of_getElem? (i := 203) rfl)
theorem kw_444 : Cond.methodLink "MailParts" 220 y_Mp_openParts ∈ lw_tbl := xm_2 (List.mem_of_getElem? (i := 204) rfl)
theorem kw_445 : Cond.privateMethod y_Mp_openParts ∈ lw_tbl := xm_2 (List.mem_of_getElem? (i := 205) rfl)
theorem kw_446 : Cond.instanceMethod y_Mp_openParts ∈ lw_tbl := xm_2 (List.mem_of_getElem? (i := 206) rfl)
theorem kw_447 : Cond.code y_Mp_openParts prog_1_method_19_code 8 none ∈ lw_tbl := xm_2 (List.mem_of_getElem? (i := 207) rfl)
theorem kw_448 : Cond.methodLink "MailParts" 224 y_Ma_markOf ∈ lw_tbl := xm_2 (List.mem_of_getElem? (i := 208) rfl)
theorem kw_449 : Cond.instanceMethod y_Ma_markOf ∈ lw_tbl := xm_2 (List.mem_of_getElem? (i := 209) rfl)
theorem kw_450 : Cond.selects "MailParts$Mail" y_Ma_markOf y_Ma_markOf ∈ lw_tbl := xm_2 (List.mem_of_getElem? (i := 210) rfl)
theorem kw_451 : Cond.code y_Ma_markOf prog_3_method_13_code 7 (some FieldType.int) ∈ lw_tbl := xm_2 (List.mem_of_getElem? (i := 211) rfl)
theorem kw_452 : Cond.methodLink "MailParts$Mail" 75 y_Ma_hasDashes ∈ lw_tbl := xm_2 (List.mem_of_getElem? (i := 212) rfl)
theorem kw_453 : Cond.privateMethod y_Ma_hasDashes ∈ lw_tbl := xm_2 (List.mem_of_getElem? (i := 213) rfl)
theorem kw_454 : Cond.instanceMethod y_Ma_hasDashes ∈ lw_tbl := xm_2 (List.mem_of_getElem? (i := 214) rfl)
theorem kw_455 : Cond.code y_Ma_hasDashes prog_3_method_14_code 3 (some FieldType.boolean) ∈ lw_tbl := xm_2 (List.mem_of_getElem? (i := 215) rfl)
theorem kw_456 : Cond.methodLink "MailParts" 126 y_Mp_chooseTexts ∈ lw_tbl := xm_2 (List.mem_of_getElem? (i := 216) rfl)
theorem kw_457 : Cond.privateMethod y_Mp_chooseTexts ∈ lw_tbl := xm_2 (List.mem_of_getElem? (i := 217) rfl)
theorem kw_458 : Cond.instanceMethod y_Mp_chooseTexts ∈ lw_tbl := xm_2 (List.mem_of_getElem? (i := 218) rfl)
theorem kw_459 : Cond.code y_Mp_chooseTexts prog_1_method_23_code 4 none ∈ lw_tbl := xm_2 (List.mem_of_getElem? (i := 219) rfl)
theorem kw_460 : Cond.methodLink "MailParts" 129 y_Mp_listLeaves ∈ lw_tbl := xm_2 (List.mem_of_getElem? (i := 220) rfl)
theorem kw_461 : Cond.privateMethod y_Mp_listLeaves ∈ lw_tbl := xm_2 (List.mem_of_getElem? (i := 221) rfl)
theorem kw_462 : Cond.instanceMethod y_Mp_listLeaves ∈ lw_tbl := xm_2 (List.mem_of_getElem? (i := 222) rfl)
theorem kw_463 : Cond.code y_Mp_listLeaves prog_1_method_24_code 4 none ∈ lw_tbl := xm_2 (List.mem_of_getElem? (i := 223) rfl)
theorem kw_464 : Cond.methodLink "MailPartsLaw" 28 y_Mp_entity ∈ lw_tbl := xm_2 (List.mem_of_getElem? (i := 224) rfl)
theorem kw_465 : Cond.instanceMethod y_Mp_entity ∈ lw_tbl := xm_2 (List.mem_of_getElem? (i := 225) rfl)
theorem kw_466 : Cond.selects "MailParts" y_Mp_entity y_Mp_entity ∈ lw_tbl := xm_2 (List.mem_of_getElem? (i := 226) rfl)
theorem kw_467 : Cond.code y_Mp_entity prog_1_method_5_code 4 (some FieldType.int) ∈ lw_tbl := xm_2 (List.mem_of_getElem? (i := 227) rfl)
theorem kw_468 : Cond.methodLink "MailParts" 152 y_Ma_startOf ∈ lw_tbl := xm_2 (List.mem_of_getElem? (i := 228) rfl)
theorem kw_469 : Cond.methodLink "MailParts" 170 y_Mp_countFields ∈ lw_tbl := xm_2 (List.mem_of_getElem? (i := 229) rfl)
theorem kw_470 : Cond.privateMethod y_Mp_countFields ∈ lw_tbl := xm_2 (List.mem_of_getElem? (i := 230) rfl)
theorem kw_471 : Cond.instanceMethod y_Mp_countFields ∈ lw_tbl := xm_2 (List.mem_of_getElem? (i := 231) rfl)
theorem kw_472 : Cond.code y_Mp_countFields prog_1_method_17_code 5 (some FieldType.int) ∈ lw_tbl := xm_2 (List.mem_of_getElem? (i := 232) rfl)
theorem kw_473 : Cond.methodLink "MailParts" 202 y_Ma_colonOf ∈ lw_tbl := xm_2 (List.mem_of_getElem? (i := 233) rfl)
theorem kw_474 : Cond.methodLink "MailPartsLaw" 33 y_Mp_length ∈ lw_tbl := xm_2 (List.mem_of_getElem? (i := 234) rfl)
theorem kw_475 : Cond.instanceMethod y_Mp_length ∈ lw_tbl := xm_2 (List.mem_of_getElem? (i := 235) rfl)
theorem kw_476 : Cond.selects "MailParts" y_Mp_length y_Mp_length ∈ lw_tbl := xm_2 (List.mem_of_getElem? (i := 236) rfl)
theorem kw_477 : Cond.code y_Mp_length prog_1_method_6_code 3 (some FieldType.int) ∈ lw_tbl := xm_2 (List.mem_of_getElem? (i := 237) rfl)
theorem kw_478 : Cond.methodLink "MailParts" 174 y_Mp_loadWord ∈ lw_tbl := xm_2 (List.mem_of_getElem? (i := 238) rfl)
theorem kw_479 : Cond.privateMethod y_Mp_loadWord ∈ lw_tbl := xm_2 (List.mem_of_getElem? (i := 239) rfl)
theorem kw_480 : Cond.instanceMethod y_Mp_loadWord ∈ lw_tbl := xm_3 (List.mem_of_getElem? (i := 0) rfl)
theorem kw_481 : Cond.code y_Mp_loadWord prog_1_method_25_code 4 (some FieldType.boolean) ∈ lw_tbl := xm_3 (List.mem_of_getElem? (i := 1) rfl)
theorem kw_482 : Cond.methodLink "MailParts" 289 y_Mp_loadName ∈ lw_tbl := xm_3 (List.mem_of_getElem? (i := 2) rfl)
theorem kw_483 : Cond.privateMethod y_Mp_loadName ∈ lw_tbl := xm_3 (List.mem_of_getElem? (i := 3) rfl)
theorem kw_484 : Cond.instanceMethod y_Mp_loadName ∈ lw_tbl := xm_3 (List.mem_of_getElem? (i := 4) rfl)
theorem kw_485 : Cond.code y_Mp_loadName prog_1_method_27_code 2 none ∈ lw_tbl := xm_3 (List.mem_of_getElem? (i := 5) rfl)
theorem kw_486 : Cond.methodLink "MailPartsLaw" 37 y_Mp_at ∈ lw_tbl := xm_3 (List.mem_of_getElem? (i := 6) rfl)
theorem kw_487 : Cond.instanceMethod y_Mp_at ∈ lw_tbl := xm_3 (List.mem_of_getElem? (i := 7) rfl)
theorem kw_488 : Cond.selects "MailParts" y_Mp_at y_Mp_at ∈ lw_tbl := xm_3 (List.mem_of_getElem? (i := 8) rfl)
theorem kw_489 : Cond.code y_Mp_at prog_1_method_7_code 4 (some FieldType.int) ∈ lw_tbl := xm_3 (List.mem_of_getElem? (i := 9) rfl)
theorem kw_490 : Cond.methodLink "MailPartsLaw" 42 y_Mp_field ∈ lw_tbl := xm_3 (List.mem_of_getElem? (i := 10) rfl)
theorem kw_491 : Cond.instanceMethod y_Mp_field ∈ lw_tbl := xm_3 (List.mem_of_getElem? (i := 11) rfl)
theorem kw_492 : Cond.selects "MailParts" y_Mp_field y_Mp_field ∈ lw_tbl := xm_3 (List.mem_of_getElem? (i := 12) rfl)
theorem kw_493 : Cond.code y_Mp_field prog_1_method_8_code 4 (some FieldType.int) ∈ lw_tbl := xm_3 (List.mem_of_getElem? (i := 13) rfl)
theorem kw_494 : Cond.methodLink "MailParts" 183 y_Mp_answerOnTape ∈ lw_tbl := xm_3 (List.mem_of_getElem? (i := 14) rfl)
theorem kw_495 : Cond.privateMethod y_Mp_answerOnTape ∈ lw_tbl := xm_3 (List.mem_of_getElem? (i := 15) rfl)
theorem kw_496 : Cond.instanceMethod y_Mp_answerOnTape ∈ lw_tbl := xm_3 (List.mem_of_getElem? (i := 16) rfl)
theorem kw_497 : Cond.code y_Mp_answerOnTape prog_1_method_16_code 2 (some FieldType.int) ∈ lw_tbl := xm_3 (List.mem_of_getElem? (i := 17) rfl)
theorem kw_498 : Cond.methodLink "MailPartsLaw" 46 y_Mp_parameter ∈ lw_tbl := xm_3 (List.mem_of_getElem? (i := 18) rfl)
theorem kw_499 : Cond.instanceMethod y_Mp_parameter ∈ lw_tbl := xm_3 (List.mem_of_getElem? (i := 19) rfl)
theorem kw_500 : Cond.selects "MailParts" y_Mp_parameter y_Mp_parameter ∈ lw_tbl := xm_3 (List.mem_of_getElem? (i := 20) rfl)
theorem kw_501 : Cond.code y_Mp_parameter prog_1_method_9_code 4 (some FieldType.int) ∈ lw_tbl := xm_3 (List.mem_of_getElem? (i := 21) rfl)
theorem kw_502 : Cond.methodLink "MailPartsLaw" 50 y_Mp_byteAt ∈ lw_tbl := xm_3 (List.mem_of_getElem? (i := 22) rfl)
theorem kw_503 : Cond.instanceMethod y_Mp_byteAt ∈ lw_tbl := xm_3 (List.mem_of_getElem? (i := 23) rfl)
theorem kw_504 : Cond.selects "MailParts" y_Mp_byteAt y_Mp_byteAt ∈ lw_tbl := xm_3 (List.mem_of_getElem? (i := 24) rfl)
theorem kw_505 : Cond.code y_Mp_byteAt prog_1_method_10_code 2 (some FieldType.int) ∈ lw_tbl := xm_3 (List.mem_of_getElem? (i := 25) rfl)
theorem kw_506 : Cond.methodLink "MailPartsLaw" 54 y_Mp_text ∈ lw_tbl := xm_3 (List.mem_of_getElem? (i := 26) rfl)
theorem kw_507 : Cond.instanceMethod y_Mp_text ∈ lw_tbl := xm_3 (List.mem_of_getElem? (i := 27) rfl)
theorem kw_508 : Cond.selects "MailParts" y_Mp_text y_Mp_text ∈ lw_tbl := xm_3 (List.mem_of_getElem? (i := 28) rfl)
theorem kw_509 : Cond.code y_Mp_text prog_1_method_11_code 3 (some FieldType.int) ∈ lw_tbl := xm_3 (List.mem_of_getElem? (i := 29) rfl)
theorem kw_510 : Cond.methodLink "MailPartsLaw" 59 y_Mp_body ∈ lw_tbl := xm_3 (List.mem_of_getElem? (i := 30) rfl)
theorem kw_511 : Cond.instanceMethod y_Mp_body ∈ lw_tbl := xm_3 (List.mem_of_getElem? (i := 31) rfl)
theorem kw_512 : Cond.selects "MailParts" y_Mp_body y_Mp_body ∈ lw_tbl := xm_3 (List.mem_of_getElem? (i := 32) rfl)
theorem kw_513 : Cond.code y_Mp_body prog_1_method_12_code 4 (some FieldType.int) ∈ lw_tbl := xm_3 (List.mem_of_getElem? (i := 33) rfl)
theorem kw_514 : Cond.methodLink "MailParts" 191 y_Ma_copyLines ∈ lw_tbl := xm_3 (List.mem_of_getElem? (i := 34) rfl)
theorem kw_515 : Cond.instanceMethod y_Ma_copyLines ∈ lw_tbl := xm_3 (List.mem_of_getElem? (i := 35) rfl)
theorem kw_516 : Cond.selects "MailParts$Mail" y_Ma_copyLines y_Ma_copyLines ∈ lw_tbl := xm_3 (List.mem_of_getElem? (i := 36) rfl)
theorem kw_517 : Cond.code y_Ma_copyLines prog_3_method_12_code 5 none ∈ lw_tbl := xm_3 (List.mem_of_getElem? (i := 37) rfl)
theorem kw_518 : Cond.methodLink "MailParts$Mail" 72 y_Ro_add ∈ lw_tbl := xm_3 (List.mem_of_getElem? (i := 38) rfl)
theorem kw_519 : Cond.methodLink "MailPartsLaw" 63 y_Mp_count ∈ lw_tbl := xm_3 (List.mem_of_getElem? (i := 39) rfl)
theorem kw_520 : Cond.instanceMethod y_Mp_count ∈ lw_tbl := xm_3 (List.mem_of_getElem? (i := 40) rfl)
theorem kw_521 : Cond.selects "MailParts" y_Mp_count y_Mp_count ∈ lw_tbl := xm_3 (List.mem_of_getElem? (i := 41) rfl)
theorem kw_522 : Cond.code y_Mp_count prog_1_method_13_code 2 (some FieldType.int) ∈ lw_tbl := xm_3 (List.mem_of_getElem? (i := 42) rfl)
theorem kw_523 : Cond.classLink "MailPartsLaw" 10 "MailPartsModel" ∈ lw_tbl := xm_3 (List.mem_of_getElem? (i := 43) rfl)
theorem kw_524 : Cond.instantiable "MailPartsModel" 57 ∈ lw_tbl := xm_3 (List.mem_of_getElem? (i := 44) rfl)
theorem kw_525 : Cond.methodLink "MailPartsLaw" 12 y_Mo_init ∈ lw_tbl := xm_3 (List.mem_of_getElem? (i := 45) rfl)
theorem kw_526 : Cond.instanceMethod y_Mo_init ∈ lw_tbl := xm_3 (List.mem_of_getElem? (i := 46) rfl)
theorem kw_527 : Cond.code y_Mo_init prog_7_method_1_code 1 none ∈ lw_tbl := xm_3 (List.mem_of_getElem? (i := 47) rfl)
theorem kw_528 : Cond.methodLink "MailPartsModel" 1 ⟨"java/lang/Object", "<init>", "()V"⟩ ∈ lw_tbl := xm_3 (List.mem_of_getElem? (i := 48) rfl)
theorem kw_529 : Cond.fieldLink "MailPartsModel" 7 "MailPartsModel" "CONTENT" "[I" ∈ lw_tbl := xm_3 (List.mem_of_getElem? (i := 49) rfl)
theorem kw_530 : Cond.fieldLink "MailPartsModel" 13 "MailPartsModel" "TRANSFER" "[I" ∈ lw_tbl := xm_3 (List.mem_of_getElem? (i := 50) rfl)
theorem kw_531 : Cond.fieldLink "MailPartsModel" 16 "MailPartsModel" "DISPOSITION" "[I" ∈ lw_tbl := xm_3 (List.mem_of_getElem? (i := 51) rfl)
theorem kw_532 : Cond.fieldLink "MailPartsModel" 19 "MailPartsModel" "BOUNDARY_NAME" "[I" ∈ lw_tbl := xm_3 (List.mem_of_getElem? (i := 52) rfl)
theorem kw_533 : Cond.fieldLink "MailPartsModel" 22 "MailPartsModel" "FILE_NAME" "[I" ∈ lw_tbl := xm_3 (List.mem_of_getElem? (i := 53) rfl)
theorem kw_534 : Cond.fieldLink "MailPartsModel" 25 "MailPartsModel" "NAME" "[I" ∈ lw_tbl := xm_3 (List.mem_of_getElem? (i := 54) rfl)
theorem kw_535 : Cond.fieldLink "MailPartsModel" 28 "MailPartsModel" "PLAIN" "[I" ∈ lw_tbl := xm_3 (List.mem_of_getElem? (i := 55) rfl)
theorem kw_536 : Cond.fieldLink "MailPartsModel" 31 "MailPartsModel" "HTML" "[I" ∈ lw_tbl := xm_3 (List.mem_of_getElem? (i := 56) rfl)
theorem kw_537 : Cond.fieldLink "MailPartsModel" 34 "MailPartsModel" "TEXT" "[I" ∈ lw_tbl := xm_3 (List.mem_of_getElem? (i := 57) rfl)
theorem kw_538 : Cond.fieldLink "MailPartsModel" 37 "MailPartsModel" "MULTIPART" "[I" ∈ lw_tbl := xm_3 (List.mem_of_getElem? (i := 58) rfl)
theorem kw_539 : Cond.fieldLink "MailPartsModel" 40 "MailPartsModel" "DIGEST" "[I" ∈ lw_tbl := xm_3 (List.mem_of_getElem? (i := 59) rfl)
theorem kw_540 : Cond.fieldLink "MailPartsModel" 43 "MailPartsModel" "ALTERNATIVE" "[I" ∈ lw_tbl := xm_3 (List.mem_of_getElem? (i := 60) rfl)
theorem kw_541 : Cond.fieldLink "MailPartsModel" 46 "MailPartsModel" "MESSAGE" "[I" ∈ lw_tbl := xm_3 (List.mem_of_getElem? (i := 61) rfl)
theorem kw_542 : Cond.fieldLink "MailPartsModel" 49 "MailPartsModel" "ATTACHMENT" "[I" ∈ lw_tbl := xm_3 (List.mem_of_getElem? (i := 62) rfl)
theorem kw_543 : Cond.fieldLink "MailPartsModel" 52 "MailPartsModel" "SEVEN" "[I" ∈ lw_tbl := xm_3 (List.mem_of_getElem? (i := 63) rfl)
theorem kw_544 : Cond.fieldLink "MailPartsModel" 55 "MailPartsModel" "EIGHT" "[I" ∈ lw_tbl := xm_3 (List.mem_of_getElem? (i := 64) rfl)
theorem kw_545 : Cond.fieldLink "MailPartsModel" 58 "MailPartsModel" "BINARY" "[I" ∈ lw_tbl := xm_3 (List.mem_of_getElem? (i := 65) rfl)
theorem kw_546 : Cond.fieldLink "MailPartsModel" 61 "MailPartsModel" "ready" "[B" ∈ lw_tbl := xm_3 (List.mem_of_getElem? (i := 66) rfl)
theorem kw_547 : Cond.fieldLink "MailPartsModel" 65 "MailPartsModel" "tape" "[B" ∈ lw_tbl := xm_3 (List.mem_of_getElem? (i := 67) rfl)
theorem kw_548 : Cond.fieldLink "MailPartsModel" 281 "MailPartsModel" "taped" "I" ∈ lw_tbl := xm_3 (List.mem_of_getElem? (i := 68) rfl)
theorem kw_549 : Cond.fieldLink "MailPartsModel" 68 "MailPartsModel" "mail" "[B" ∈ lw_tbl := xm_3 (List.mem_of_getElem? (i := 69) rfl)
theorem kw_550 : Cond.fieldLink "MailPartsModel" 143 "MailPartsModel" "size" "I" ∈ lw_tbl := xm_3 (List.mem_of_getElem? (i := 70) rfl)
theorem kw_551 : Cond.fieldLink "MailPartsModel" 284 "MailPartsModel" "isRead" "Z" ∈ lw_tbl := xm_3 (List.mem_of_getElem? (i := 71) rfl)
theorem kw_552 : Cond.fieldLink "MailPartsModel" 139 "MailPartsModel" "lines" "I" ∈ lw_tbl := xm_3 (List.mem_of_getElem? (i := 72) rfl)
theorem kw_553 : Cond.fieldLink "MailPartsModel" 71 "MailPartsModel" "lineFrom" "[I" ∈ lw_tbl := xm_3 (List.mem_of_getElem? (i := 73) rfl)
theorem kw_554 : Cond.fieldLink "MailPartsModel" 74 "MailPartsModel" "lineTo" "[I" ∈ lw_tbl := xm_3 (List.mem_of_getElem? (i := 74) rfl)
theorem kw_555 : Cond.fieldLink "MailPartsModel" 258 "MailPartsModel" "entities" "I" ∈ lw_tbl := xm_3 (List.mem_of_getElem? (i := 75) rfl)
theorem kw_556 : Cond.fieldLink "MailPartsModel" 261 "MailPartsModel" "lost" "I" ∈ lw_tbl := xm_3 (List.mem_of_getElem? (i := 76) rfl)
theorem kw_557 : Cond.fieldLink "MailPartsModel" 77 "MailPartsModel" "first" "[I" ∈ lw_tbl := xm_3 (List.mem_of_getElem? (i := 77) rfl)
theorem kw_558 : Cond.fieldLink "MailPartsModel" 80 "MailPartsModel" "end" "[I" ∈ lw_tbl := xm_3 (List.mem_of_getElem? (i := 78) rfl)
theorem kw_559 : Cond.fieldLink "MailPartsModel" 83 "MailPartsModel" "headEnd" "[I" ∈ lw_tbl := xm_3 (List.mem_of_getElem? (i := 79) rfl)
theorem kw_560 : Cond.fieldLink "MailPartsModel" 86 "MailPartsModel" "body" "[I" ∈ lw_tbl := xm_3 (List.mem_of_getElem? (i := 80) rfl)
theorem kw_561 : Cond.fieldLink "MailPartsModel" 89 "MailPartsModel" "around" "[I" ∈ lw_tbl := xm_3 (List.mem_of_getElem? (i := 81) rfl)
theorem kw_562 : Cond.fieldLink "MailPartsModel" 92 "MailPartsModel" "depth" "[I" ∈ lw_tbl := xm_3 (List.mem_of_getElem? (i := 82) rfl)
theorem kw_563 : Cond.fieldLink "MailPartsModel" 95 "MailPartsModel" "kind" "[I" ∈ lw_tbl := xm_3 (List.mem_of_getElem? (i := 83) rfl)
theorem kw_564 : Cond.fieldLink "MailPartsModel" 98 "MailPartsModel" "texts" "[J" ∈ lw_tbl := xm_3 (List.mem_of_getElem? (i := 84) rfl)
theorem kw_565 : Cond.fieldLink "MailPartsModel" 278 "MailPartsModel" "shown" "J" ∈ lw_tbl := xm_3 (List.mem_of_getElem? (i := 85) rfl)
theorem kw_566 : Cond.fieldLink "MailPartsModel" 267 "MailPartsModel" "html" "J" ∈ lw_tbl := xm_3 (List.mem_of_getElem? (i := 86) rfl)
theorem kw_567 : Cond.fieldLink "MailPartsModel" 232 "MailPartsModel" "tasks" "I" ∈ lw_tbl := xm_3 (List.mem_of_getElem? (i := 87) rfl)
theorem kw_568 : Cond.fieldLink "MailPartsModel" 102 "MailPartsModel" "taskFrom" "[I" ∈ lw_tbl := xm_3 (List.mem_of_getElem? (i := 88) rfl)
theorem kw_569 : Cond.fieldLink "MailPartsModel" 105 "MailPartsModel" "taskTo" "[I" ∈ lw_tbl := xm_3 (List.mem_of_getElem? (i := 89) rfl)
theorem kw_570 : Cond.fieldLink "MailPartsModel" 108 "MailPartsModel" "taskIn" "[I" ∈ lw_tbl := xm_3 (List.mem_of_getElem? (i := 90) rfl)
theorem kw_571 : Cond.fieldLink "MailPartsModel" 223 "MailPartsModel" "parts" "I" ∈ lw_tbl := xm_3 (List.mem_of_getElem? (i := 91) rfl)
theorem kw_572 : Cond.fieldLink "MailPartsModel" 111 "MailPartsModel" "partFrom" "[I" ∈ lw_tbl := xm_3 (List.mem_of_getElem? (i := 92) rfl)
theorem kw_573 : Cond.fieldLink "MailPartsModel" 114 "MailPartsModel" "partTo" "[I" ∈ lw_tbl := xm_3 (List.mem_of_getElem? (i := 93) rfl)
theorem kw_574 : Cond.fieldLink "MailPartsModel" 117 "MailPartsModel" "value" "[B" ∈ lw_tbl := xm_3 (List.mem_of_getElem? (i := 94) rfl)
theorem kw_575 : Cond.fieldLink "MailPartsModel" 156 "MailPartsModel" "valueSize" "I" ∈ lw_tbl := xm_3 (List.mem_of_getElem? (i := 95) rfl)
theorem kw_576 : Cond.fieldLink "MailPartsModel" 169 "MailPartsModel" "items" "I" ∈ lw_tbl := xm_3 (List.mem_of_getElem? (i := 96) rfl)
theorem kw_577 : Cond.fieldLink "MailPartsModel" 163 "MailPartsModel" "from" "I" ∈ lw_tbl := xm_3 (List.mem_of_getElem? (i := 97) rfl)
theorem kw_578 : Cond.fieldLink "MailPartsModel" 166 "MailPartsModel" "to" "I" ∈ lw_tbl := xm_3 (List.mem_of_getElem? (i := 98) rfl)
theorem kw_579 : Cond.fieldLink "MailPartsModel" 120 "MailPartsModel" "itemFrom" "[I" ∈ lw_tbl := xm_3 (List.mem_of_getElem? (i := 99) rfl)
theorem kw_580 : Cond.fieldLink "MailPartsModel" 123 "MailPartsModel" "itemTo" "[I" ∈ lw_tbl := xm_3 (List.mem_of_getElem? (i := 100) rfl)
theorem kw_581 : Cond.fieldLink "MailPartsModel" 126 "MailPartsModel" "got" "[B" ∈ lw_tbl := xm_3 (List.mem_of_getElem? (i := 101) rfl)
theorem kw_582 : Cond.fieldLink "MailPartsModel" 180 "MailPartsModel" "gotSize" "I" ∈ lw_tbl := xm_3 (List.mem_of_getElem? (i := 102) rfl)
theorem kw_583 : Cond.fieldLink "MailPartsModel" 129 "MailPartsModel" "mark" "[B" ∈ lw_tbl := xm_3 (List.mem_of_getElem? (i := 103) rfl)
theorem kw_584 : Cond.fieldLink "MailPartsModel" 220 "MailPartsModel" "markSize" "I" ∈ lw_tbl := xm_3 (List.mem_of_getElem? (i := 104) rfl)
theorem kw_585 : Cond.fieldLink "MailPartsModel" 132 "MailPartsModel" "asked" "[I" ∈ lw_tbl := xm_3 (List.mem_of_getElem? (i := 105) rfl)
theorem kw_586 : Cond.laysFinal "MailPartsModel" "MailPartsModel" "CONTENT" "[I" ∈ lw_tbl := xm_3 (List.mem_of_getElem? (i := 106) rfl)
theorem kw_588 : Cond.laysFinal "MailPartsModel" "MailPartsModel" "TRANSFER" "[I" ∈ lw_tbl := xm_3 (List.mem_of_getElem? (i := 108) rfl)
theorem kw_590 : Cond.laysFinal "MailPartsModel" "MailPartsModel" "DISPOSITION" "[I" ∈ lw_tbl := xm_3 (List.mem_of_getElem? (i := 110) rfl)
theorem kw_592 : Cond.laysFinal "MailPartsModel" "MailPartsModel" "BOUNDARY_NAME" "[I" ∈ lw_tbl := xm_3 (List.mem_of_getElem? (i := 112) rfl)
theorem kw_594 : Cond.laysFinal "MailPartsModel" "MailPartsModel" "FILE_NAME" "[I" ∈ lw_tbl := xm_3 (List.mem_of_getElem? (i := 114) rfl)
theorem kw_596 : Cond.laysFinal "MailPartsModel" "MailPartsModel" "NAME" "[I" ∈ lw_tbl := xm_3 (List.mem_of_getElem? (i := 116) rfl)
theorem kw_598 : Cond.laysFinal "MailPartsModel" "MailPartsModel" "PLAIN" "[I" ∈ lw_tbl := xm_3 (List.mem_of_getElem? (i := 118) rfl)
theorem kw_600 : Cond.laysFinal "MailPartsModel" "MailPartsModel" "HTML" "[I" ∈ lw_tbl := xm_3 (List.mem_of_getElem? (i := 120) rfl)
theorem kw_602 : Cond.laysFinal "MailPartsModel" "MailPartsModel" "TEXT" "[I" ∈ lw_tbl := xm_3 (List.mem_of_getElem? (i := 122) rfl)
theorem kw_604 : Cond.laysFinal "MailPartsModel" "MailPartsModel" "MULTIPART" "[I" ∈ lw_tbl := xm_3 (List.mem_of_getElem? (i := 124) rfl)
theorem kw_606 : Cond.laysFinal "MailPartsModel" "MailPartsModel" "DIGEST" "[I" ∈ lw_tbl := xm_3 (List.mem_of_getElem? (i := 126) rfl)
theorem kw_608 : Cond.laysFinal "MailPartsModel" "MailPartsModel" "ALTERNATIVE" "[I" ∈ lw_tbl := xm_3 (List.mem_of_getElem? (i := 128) rfl)
theorem kw_610 : Cond.laysFinal "MailPartsModel" "MailPartsModel" "MESSAGE" "[I" ∈ lw_tbl := xm_3 (List.mem_of_getElem? (i := 130) rfl)
theorem kw_612 : Cond.laysFinal "MailPartsModel" "MailPartsModel" "ATTACHMENT" "[I" ∈ lw_tbl := xm_3 (List.mem_of_getElem? (i := 132) rfl)
theorem kw_614 : Cond.laysFinal "MailPartsModel" "MailPartsModel" "SEVEN" "[I" ∈ lw_tbl := xm_3 (List.mem_of_getElem? (i := 134) rfl)
theorem kw_616 : Cond.laysFinal "MailPartsModel" "MailPartsModel" "EIGHT" "[I" ∈ lw_tbl := xm_3 (List.mem_of_getElem? (i := 136) rfl)
theorem kw_618 : Cond.laysFinal "MailPartsModel" "MailPartsModel" "BINARY" "[I" ∈ lw_tbl := xm_3 (List.mem_of_getElem? (i := 138) rfl)
theorem kw_620 : Cond.laysFinal "MailPartsModel" "MailPartsModel" "ready" "[B" ∈ lw_tbl := xm_3 (List.mem_of_getElem? (i := 140) rfl)
theorem kw_622 : Cond.laysFinal "MailPartsModel" "MailPartsModel" "tape" "[B" ∈ lw_tbl := xm_3 (List.mem_of_getElem? (i := 142) rfl)
theorem kw_624 : Cond.lays "MailPartsModel" "MailPartsModel" "taped" "I" ∈ lw_tbl := xm_3 (List.mem_of_getElem? (i := 144) rfl)
theorem kw_626 : Cond.laysFinal "MailPartsModel" "MailPartsModel" "mail" "[B" ∈ lw_tbl := xm_3 (List.mem_of_getElem? (i := 146) rfl)
theorem kw_628 : Cond.lays "MailPartsModel" "MailPartsModel" "size" "I" ∈ lw_tbl := xm_3 (List.mem_of_getElem? (i := 148) rfl)
theorem kw_630 : Cond.lays "MailPartsModel" "MailPartsModel" "isRead" "Z" ∈ lw_tbl := xm_3 (List.mem_of_getElem? (i := 150) rfl)
theorem kw_632 : Cond.lays "MailPartsModel" "MailPartsModel" "lines" "I" ∈ lw_tbl := xm_3 (List.mem_of_getElem? (i := 152) rfl)
theorem kw_634 : Cond.laysFinal "MailPartsModel" "MailPartsModel" "lineFrom" "[I" ∈ lw_tbl := xm_3 (List.mem_of_getElem? (i := 154) rfl)
theorem kw_636 : Cond.laysFinal "MailPartsModel" "MailPartsModel" "lineTo" "[I" ∈ lw_tbl := xm_3 (List.mem_of_getElem? (i := 156) rfl)
theorem kw_638 : Cond.lays "MailPartsModel" "MailPartsModel" "entities" "I" ∈ lw_tbl := xm_3 (List.mem_of_getElem? (i := 158) rfl)
theorem kw_640 : Cond.lays "MailPartsModel" "MailPartsModel" "lost" "I" ∈ lw_tbl := xm_3 (List.mem_of_getElem? (i := 160) rfl)
theorem kw_642 : Cond.laysFinal "MailPartsModel" "MailPartsModel" "first" "[I" ∈ lw_tbl := xm_3 (List.mem_of_getElem? (i := 162) rfl)
theorem kw_644 : Cond.laysFinal "MailPartsModel" "MailPartsModel" "end" "[I" ∈ lw_tbl := xm_3 (List.mem_of_getElem? (i := 164) rfl)
theorem kw_646 : Cond.laysFinal "MailPartsModel" "MailPartsModel" "headEnd" "[I" ∈ lw_tbl := xm_3 (List.mem_of_getElem? (i := 166) rfl)
theorem kw_648 : Cond.laysFinal "MailPartsModel" "MailPartsModel" "body" "[I" ∈ lw_tbl := xm_3 (List.mem_of_getElem? (i := 168) rfl)
theorem kw_650 : Cond.laysFinal "MailPartsModel" "MailPartsModel" "around" "[I" ∈ lw_tbl := xm_3 (List.mem_of_getElem? (i := 170) rfl)
theorem kw_652 : Cond.laysFinal "MailPartsModel" "MailPartsModel" "depth" "[I" ∈ lw_tbl := xm_3 (List.mem_of_getElem? (i := 172) rfl)
theorem kw_654 : Cond.laysFinal "MailPartsModel" "MailPartsModel" "kind" "[I" ∈ lw_tbl := xm_3 (List.mem_of_getElem? (i := 174) rfl)
theorem kw_656 : Cond.laysFinal "MailPartsModel" "MailPartsModel" "texts" "[J" ∈ lw_tbl := xm_3 (List.mem_of_getElem? (i := 176) rfl)
theorem kw_658 : Cond.lays "MailPartsModel" "MailPartsModel" "shown" "J" ∈ lw_tbl := xm_3 (List.mem_of_getElem? (i := 178) rfl)
theorem kw_660 : Cond.lays "MailPartsModel" "MailPartsModel" "html" "J" ∈ lw_tbl := xm_3 (List.mem_of_getElem? (i := 180) rfl)
theorem kw_662 : Cond.lays "MailPartsModel" "MailPartsModel" "tasks" "I" ∈ lw_tbl := xm_3 (List.mem_of_getElem? (i := 182) rfl)
theorem kw_664 : Cond.laysFinal "MailPartsModel" "MailPartsModel" "taskFrom" "[I" ∈ lw_tbl := xm_3 (List.mem_of_getElem? (i := 184) rfl)
theorem kw_666 : Cond.laysFinal "MailPartsModel" "MailPartsModel" "taskTo" "[I" ∈ lw_tbl := xm_3 (List.mem_of_getElem? (i := 186) rfl)
theorem kw_668 : Cond.laysFinal "MailPartsModel" "MailPartsModel" "taskIn" "[I" ∈ lw_tbl := xm_3 (List.mem_of_getElem? (i := 188) rfl)
theorem kw_670 : Cond.lays "MailPartsModel" "MailPartsModel" "parts" "I" ∈ lw_tbl := xm_3 (List.mem_of_getElem? (i := 190) rfl)
theorem kw_672 : Cond.laysFinal "MailPartsModel" "MailPartsModel" "partFrom" "[I" ∈ lw_tbl := xm_3 (List.mem_of_getElem? (i := 192) rfl)
theorem kw_674 : Cond.laysFinal "MailPartsModel" "MailPartsModel" "partTo" "[I" ∈ lw_tbl := xm_3 (List.mem_of_getElem? (i := 194) rfl)
theorem kw_676 : Cond.laysFinal "MailPartsModel" "MailPartsModel" "value" "[B" ∈ lw_tbl := xm_3 (List.mem_of_getElem? (i := 196) rfl)
theorem kw_678 : Cond.lays "MailPartsModel" "MailPartsModel" "valueSize" "I" ∈ lw_tbl := xm_3 (List.mem_of_getElem? (i := 198) rfl)
theorem kw_680 : Cond.lays "MailPartsModel" "MailPartsModel" "items" "I" ∈ lw_tbl := xm_3 (List.mem_of_getElem? (i := 200) rfl)
theorem kw_682 : Cond.lays "MailPartsModel" "MailPartsModel" "from" "I" ∈ lw_tbl := xm_3 (List.mem_of_getElem? (i := 202) rfl)
theorem kw_684 : Cond.lays "MailPartsModel" "MailPartsModel" "to" "I" ∈ lw_tbl := xm_3 (List.mem_of_getElem? (i := 204) rfl)
theorem kw_686 : Cond.laysFinal "MailPartsModel" "MailPartsModel" "itemFrom" "[I" ∈ lw_tbl := xm_3 (List.mem_of_getElem? (i := 206) rfl)
theorem kw_688 : Cond.laysFinal "MailPartsModel" "MailPartsModel" "itemTo" "[I" ∈ lw_tbl := xm_3 (List.mem_of_getElem? (i := 208) rfl)
theorem kw_690 : Cond.laysFinal "MailPartsModel" "MailPartsModel" "got" "[B" ∈ lw_tbl := xm_3 (List.mem_of_getElem? (i := 210) rfl)
theorem kw_692 : Cond.lays "MailPartsModel" "MailPartsModel" "gotSize" "I" ∈ lw_tbl := xm_3 (List.mem_of_getElem? (i := 212) rfl)
theorem kw_694 : Cond.laysFinal "MailPartsModel" "MailPartsModel" "mark" "[B" ∈ lw_tbl := xm_3 (List.mem_of_getElem? (i := 214) rfl)
theorem kw_696 : Cond.lays "MailPartsModel" "MailPartsModel" "markSize" "I" ∈ lw_tbl := xm_3 (List.mem_of_getElem? (i := 216) rfl)
theorem kw_698 : Cond.laysFinal "MailPartsModel" "MailPartsModel" "asked" "[I" ∈ lw_tbl := xm_3 (List.mem_of_getElem? (i := 218) rfl)
theorem kw_701 : Cond.arrayClass FieldType.long ∈ lw_tbl := xm_3 (List.mem_of_getElem? (i := 221) rfl)
theorem kw_702 : Cond.methodLink "MailPartsLaw" 17 y_Mo_feed ∈ lw_tbl := xm_3 (List.mem_of_getElem? (i := 222) rfl)
theorem kw_703 : Cond.instanceMethod y_Mo_feed ∈ lw_tbl := xm_3 (List.mem_of_getElem? (i := 223) rfl)
theorem kw_704 : Cond.selects "MailPartsModel" y_Mo_feed y_Mo_feed ∈ lw_tbl := xm_3 (List.mem_of_getElem? (i := 224) rfl)
theorem kw_705 : Cond.code y_Mo_feed prog_7_method_36_code 8 none ∈ lw_tbl := xm_3 (List.mem_of_getElem? (i := 225) rfl)
theorem kw_706 : Cond.methodLink "MailPartsLaw" 22 y_Mo_end ∈ lw_tbl := xm_3 (List.mem_of_getElem? (i := 226) rfl)
theorem kw_707 : Cond.instanceMethod y_Mo_end ∈ lw_tbl := xm_3 (List.mem_of_getElem? (i := 227) rfl)
theorem kw_708 : Cond.selects "MailPartsModel" y_Mo_end y_Mo_end ∈ lw_tbl := xm_3 (List.mem_of_getElem? (i := 228) rfl)
theorem kw_709 : Cond.code y_Mo_end prog_7_method_37_code 3 (some FieldType.int) ∈ lw_tbl := xm_3 (List.mem_of_getElem? (i := 229) rfl)
theorem kw_710 : Cond.methodLink "MailPartsLaw" 27 y_Mo_read ∈ lw_tbl := xm_3 (List.mem_of_getElem? (i := 230) rfl)
theorem kw_711 : Cond.instanceMethod y_Mo_read ∈ lw_tbl := xm_3 (List.mem_of_getElem? (i := 231) rfl)
theorem kw_712 : Cond.selects "MailPartsModel" y_Mo_read y_Mo_read ∈ lw_tbl := xm_3 (List.mem_of_getElem? (i := 232) rfl)
theorem kw_713 : Cond.code y_Mo_read prog_7_method_38_code 2 (some FieldType.int) ∈ lw_tbl := xm_3 (List.mem_of_getElem? (i := 233) rfl)
theorem kw_714 : Cond.methodLink "MailPartsModel" 288 y_Mo_split ∈ lw_tbl := xm_3 (List.mem_of_getElem? (i := 234) rfl)
theorem kw_715 : Cond.privateMethod y_Mo_split ∈ lw_tbl := xm_3 (List.mem_of_getElem? (i := 235) rfl)
theorem kw_716 : Cond.instanceMethod y_Mo_split ∈ lw_tbl := xm_3 (List.mem_of_getElem? (i := 236) rfl)
theorem kw_717 : Cond.code y_Mo_split prog_7_method_5_code 3 none ∈ lw_tbl := xm_3 (List.mem_of_getElem? (i := 237) rfl)
theorem kw_718 : Cond.methodLink "MailPartsModel" 291 y_Mo_build ∈ lw_tbl := xm_3 (List.mem_of_getElem? (i := 238) rfl)
theorem kw_719 : Cond.privateMethod y_Mo_build ∈ lw_tbl := xm_3 (List.mem_of_getElem? (i := 239) rfl)
theorem kw_720 : Cond.instanceMethod y_Mo_build ∈ lw_tbl := xm_4 (List.mem_of_getElem? (i := 0) rfl)
theorem kw_721 : Cond.code y_Mo_build prog_7_method_32_code 2 none ∈ lw_tbl := xm_4 (List.mem_of_getElem? (i := 1) rfl)
theorem kw_722 : Cond.methodLink "MailPartsModel" 251 y_Mo_push ∈ lw_tbl := xm_4 (List.mem_of_getElem? (i := 2) rfl)
theorem kw_723 : Cond.privateMethod y_Mo_push ∈ lw_tbl := xm_4 (List.mem_of_getElem? (i := 3) rfl)
theorem kw_724 : Cond.instanceMethod y_Mo_push ∈ lw_tbl := xm_4 (List.mem_of_getElem? (i := 4) rfl)
theorem kw_725 : Cond.code y_Mo_push prog_7_method_28_code 4 none ∈ lw_tbl := xm_4 (List.mem_of_getElem? (i := 5) rfl)
theorem kw_726 : Cond.methodLink "MailPartsModel" 264 y_Mo_look ∈ lw_tbl := xm_4 (List.mem_of_getElem? (i := 6) rfl)
theorem kw_727 : Cond.privateMethod y_Mo_look ∈ lw_tbl := xm_4 (List.mem_of_getElem? (i := 7) rfl)
theorem kw_728 : Cond.instanceMethod y_Mo_look ∈ lw_tbl := xm_4 (List.mem_of_getElem? (i := 8) rfl)
theorem kw_729 : Cond.code y_Mo_look prog_7_method_31_code 3 none ∈ lw_tbl := xm_4 (List.mem_of_getElem? (i := 9) rfl)
theorem kw_730 : Cond.methodLink "MailPartsModel" 242 y_Mo_findHead ∈ lw_tbl := xm_4 (List.mem_of_getElem? (i := 10) rfl)
theorem kw_731 : Cond.privateMethod y_Mo_findHead ∈ lw_tbl := xm_4 (List.mem_of_getElem? (i := 11) rfl)
theorem kw_732 : Cond.instanceMethod y_Mo_findHead ∈ lw_tbl := xm_4 (List.mem_of_getElem? (i := 12) rfl)
theorem kw_733 : Cond.code y_Mo_findHead prog_7_method_7_code 6 none ∈ lw_tbl := xm_4 (List.mem_of_getElem? (i := 13) rfl)
theorem kw_734 : Cond.methodLink "MailPartsModel" 150 y_Mo_colon ∈ lw_tbl := xm_4 (List.mem_of_getElem? (i := 14) rfl)
theorem kw_735 : Cond.privateMethod y_Mo_colon ∈ lw_tbl := xm_4 (List.mem_of_getElem? (i := 15) rfl)
theorem kw_736 : Cond.instanceMethod y_Mo_colon ∈ lw_tbl := xm_4 (List.mem_of_getElem? (i := 16) rfl)
theorem kw_737 : Cond.code y_Mo_colon prog_7_method_6_code 3 (some FieldType.int) ∈ lw_tbl := xm_4 (List.mem_of_getElem? (i := 17) rfl)
theorem kw_738 : Cond.methodLink "MailPartsModel" 146 y_Mo_isName ∈ lw_tbl := xm_4 (List.mem_of_getElem? (i := 18) rfl)
theorem kw_739 : Cond.static y_Mo_isName ∈ lw_tbl := xm_4 (List.mem_of_getElem? (i := 19) rfl)
theorem kw_740 : Cond.code y_Mo_isName prog_7_method_4_code 1 (some FieldType.boolean) ∈ lw_tbl := xm_4 (List.mem_of_getElem? (i := 20) rfl)
theorem kw_741 : Cond.methodLink "MailPartsModel" 135 y_Mo_small ∈ lw_tbl := xm_4 (List.mem_of_getElem? (i := 21) rfl)
theorem kw_742 : Cond.static y_Mo_small ∈ lw_tbl := xm_4 (List.mem_of_getElem? (i := 22) rfl)
theorem kw_743 : Cond.code y_Mo_small prog_7_method_3_code 1 (some FieldType.int) ∈ lw_tbl := xm_4 (List.mem_of_getElem? (i := 23) rfl)
theorem kw_744 : Cond.methodLink "MailPartsModel" 153 y_Mo_isBlank ∈ lw_tbl := xm_4 (List.mem_of_getElem? (i := 24) rfl)
theorem kw_745 : Cond.static y_Mo_isBlank ∈ lw_tbl := xm_4 (List.mem_of_getElem? (i := 25) rfl)
theorem kw_746 : Cond.code y_Mo_isBlank prog_7_method_2_code 1 (some FieldType.boolean) ∈ lw_tbl := xm_4 (List.mem_of_getElem? (i := 26) rfl)
theorem kw_747 : Cond.methodLink "MailPartsModel" 245 y_Mo_isMulti ∈ lw_tbl := xm_4 (List.mem_of_getElem? (i := 27) rfl)
theorem kw_748 : Cond.privateMethod y_Mo_isMulti ∈ lw_tbl := xm_4 (List.mem_of_getElem? (i := 28) rfl)
theorem kw_749 : Cond.instanceMethod y_Mo_isMulti ∈ lw_tbl := xm_4 (List.mem_of_getElem? (i := 29) rfl)
theorem kw_750 : Cond.code y_Mo_isMulti prog_7_method_29_code 3 (some FieldType.boolean) ∈ lw_tbl := xm_4 (List.mem_of_getElem? (i := 30) rfl)
theorem kw_751 : Cond.methodLink "MailPartsModel" 235 y_Mo_type ∈ lw_tbl := xm_4 (List.mem_of_getElem? (i := 31) rfl)
theorem kw_752 : Cond.privateMethod y_Mo_type ∈ lw_tbl := xm_4 (List.mem_of_getElem? (i := 32) rfl)
theorem kw_753 : Cond.instanceMethod y_Mo_type ∈ lw_tbl := xm_4 (List.mem_of_getElem? (i := 33) rfl)
theorem kw_754 : Cond.code y_Mo_type prog_7_method_22_code 3 none ∈ lw_tbl := xm_4 (List.mem_of_getElem? (i := 34) rfl)
theorem kw_755 : Cond.methodLink "MailPartsModel" 200 y_Mo_firstItem ∈ lw_tbl := xm_4 (List.mem_of_getElem? (i := 35) rfl)
theorem kw_756 : Cond.privateMethod y_Mo_firstItem ∈ lw_tbl := xm_4 (List.mem_of_getElem? (i := 36) rfl)
theorem kw_757 : Cond.instanceMethod y_Mo_firstItem ∈ lw_tbl := xm_4 (List.mem_of_getElem? (i := 37) rfl)
theorem kw_758 : Cond.code y_Mo_firstItem prog_7_method_15_code 3 none ∈ lw_tbl := xm_4 (List.mem_of_getElem? (i := 38) rfl)
theorem kw_759 : Cond.methodLink "MailPartsModel" 183 y_Mo_nothing ∈ lw_tbl := xm_4 (List.mem_of_getElem? (i := 39) rfl)
theorem kw_760 : Cond.privateMethod y_Mo_nothing ∈ lw_tbl := xm_4 (List.mem_of_getElem? (i := 40) rfl)
theorem kw_761 : Cond.instanceMethod y_Mo_nothing ∈ lw_tbl := xm_4 (List.mem_of_getElem? (i := 41) rfl)
theorem kw_762 : Cond.code y_Mo_nothing prog_7_method_14_code 1 none ∈ lw_tbl := xm_4 (List.mem_of_getElem? (i := 42) rfl)
theorem kw_763 : Cond.methodLink "MailPartsModel" 186 y_Mo_find ∈ lw_tbl := xm_4 (List.mem_of_getElem? (i := 43) rfl)
theorem kw_764 : Cond.privateMethod y_Mo_find ∈ lw_tbl := xm_4 (List.mem_of_getElem? (i := 44) rfl)
theorem kw_765 : Cond.instanceMethod y_Mo_find ∈ lw_tbl := xm_4 (List.mem_of_getElem? (i := 45) rfl)
theorem kw_766 : Cond.code y_Mo_find prog_7_method_9_code 7 (some FieldType.boolean) ∈ lw_tbl := xm_4 (List.mem_of_getElem? (i := 46) rfl)
theorem kw_767 : Cond.methodLink "MailPartsModel" 159 y_Mo_isWord ∈ lw_tbl := xm_4 (List.mem_of_getElem? (i := 47) rfl)
theorem kw_768 : Cond.static y_Mo_isWord ∈ lw_tbl := xm_4 (List.mem_of_getElem? (i := 48) rfl)
theorem kw_769 : Cond.code y_Mo_isWord prog_7_method_8_code 6 (some FieldType.boolean) ∈ lw_tbl := xm_4 (List.mem_of_getElem? (i := 49) rfl)
theorem kw_770 : Cond.methodLink "MailPartsModel" 190 y_Mo_itemize ∈ lw_tbl := xm_4 (List.mem_of_getElem? (i := 50) rfl)
theorem kw_771 : Cond.privateMethod y_Mo_itemize ∈ lw_tbl := xm_4 (List.mem_of_getElem? (i := 51) rfl)
theorem kw_772 : Cond.instanceMethod y_Mo_itemize ∈ lw_tbl := xm_4 (List.mem_of_getElem? (i := 52) rfl)
theorem kw_773 : Cond.code y_Mo_itemize prog_7_method_12_code 3 none ∈ lw_tbl := xm_4 (List.mem_of_getElem? (i := 53) rfl)
theorem kw_774 : Cond.methodLink "MailPartsModel" 172 y_Mo_over ∈ lw_tbl := xm_4 (List.mem_of_getElem? (i := 54) rfl)
theorem kw_775 : Cond.privateMethod y_Mo_over ∈ lw_tbl := xm_4 (List.mem_of_getElem? (i := 55) rfl)
theorem kw_776 : Cond.instanceMethod y_Mo_over ∈ lw_tbl := xm_4 (List.mem_of_getElem? (i := 56) rfl)
theorem kw_777 : Cond.code y_Mo_over prog_7_method_11_code 4 (some FieldType.int) ∈ lw_tbl := xm_4 (List.mem_of_getElem? (i := 57) rfl)
theorem kw_778 : Cond.methodLink "MailPartsModel" 176 y_Mo_trim ∈ lw_tbl := xm_4 (List.mem_of_getElem? (i := 58) rfl)
theorem kw_779 : Cond.privateMethod y_Mo_trim ∈ lw_tbl := xm_4 (List.mem_of_getElem? (i := 59) rfl)
theorem kw_780 : Cond.instanceMethod y_Mo_trim ∈ lw_tbl := xm_4 (List.mem_of_getElem? (i := 60) rfl)
theorem kw_781 : Cond.code y_Mo_trim prog_7_method_10_code 3 none ∈ lw_tbl := xm_4 (List.mem_of_getElem? (i := 61) rfl)
theorem kw_782 : Cond.methodLink "MailPartsModel" 193 y_Mo_keep ∈ lw_tbl := xm_4 (List.mem_of_getElem? (i := 62) rfl)
theorem kw_783 : Cond.privateMethod y_Mo_keep ∈ lw_tbl := xm_4 (List.mem_of_getElem? (i := 63) rfl)
theorem kw_784 : Cond.instanceMethod y_Mo_keep ∈ lw_tbl := xm_4 (List.mem_of_getElem? (i := 64) rfl)
theorem kw_785 : Cond.code y_Mo_keep prog_7_method_13_code 5 none ∈ lw_tbl := xm_4 (List.mem_of_getElem? (i := 65) rfl)
theorem kw_786 : Cond.methodLink "MailPartsModel" 204 y_Mo_isType ∈ lw_tbl := xm_4 (List.mem_of_getElem? (i := 66) rfl)
theorem kw_787 : Cond.privateMethod y_Mo_isType ∈ lw_tbl := xm_4 (List.mem_of_getElem? (i := 67) rfl)
theorem kw_788 : Cond.instanceMethod y_Mo_isType ∈ lw_tbl := xm_4 (List.mem_of_getElem? (i := 68) rfl)
theorem kw_789 : Cond.code y_Mo_isType prog_7_method_20_code 3 (some FieldType.boolean) ∈ lw_tbl := xm_4 (List.mem_of_getElem? (i := 69) rfl)
theorem kw_790 : Cond.methodLink "MailPartsModel" 208 y_Mo_isGot ∈ lw_tbl := xm_4 (List.mem_of_getElem? (i := 70) rfl)
theorem kw_791 : Cond.privateMethod y_Mo_isGot ∈ lw_tbl := xm_4 (List.mem_of_getElem? (i := 71) rfl)
theorem kw_792 : Cond.instanceMethod y_Mo_isGot ∈ lw_tbl := xm_4 (List.mem_of_getElem? (i := 72) rfl)
theorem kw_793 : Cond.code y_Mo_isGot prog_7_method_18_code 2 (some FieldType.boolean) ∈ lw_tbl := xm_4 (List.mem_of_getElem? (i := 73) rfl)
theorem kw_794 : Cond.methodLink "MailPartsModel" 212 y_Mo_set ∈ lw_tbl := xm_4 (List.mem_of_getElem? (i := 74) rfl)
theorem kw_795 : Cond.privateMethod y_Mo_set ∈ lw_tbl := xm_4 (List.mem_of_getElem? (i := 75) rfl)
theorem kw_796 : Cond.instanceMethod y_Mo_set ∈ lw_tbl := xm_4 (List.mem_of_getElem? (i := 76) rfl)
theorem kw_797 : Cond.code y_Mo_set prog_7_method_21_code 3 none ∈ lw_tbl := xm_4 (List.mem_of_getElem? (i := 77) rfl)
theorem kw_798 : Cond.methodLink "MailPartsModel" 239 y_Mo_begins ∈ lw_tbl := xm_4 (List.mem_of_getElem? (i := 78) rfl)
theorem kw_799 : Cond.privateMethod y_Mo_begins ∈ lw_tbl := xm_4 (List.mem_of_getElem? (i := 79) rfl)
theorem kw_800 : Cond.instanceMethod y_Mo_begins ∈ lw_tbl := xm_4 (List.mem_of_getElem? (i := 80) rfl)
theorem kw_801 : Cond.code y_Mo_begins prog_7_method_19_code 2 (some FieldType.boolean) ∈ lw_tbl := xm_4 (List.mem_of_getElem? (i := 81) rfl)
theorem kw_802 : Cond.methodLink "MailPartsModel" 216 y_Mo_parameterOf ∈ lw_tbl := xm_4 (List.mem_of_getElem? (i := 82) rfl)
theorem kw_803 : Cond.privateMethod y_Mo_parameterOf ∈ lw_tbl := xm_4 (List.mem_of_getElem? (i := 83) rfl)
theorem kw_804 : Cond.instanceMethod y_Mo_parameterOf ∈ lw_tbl := xm_4 (List.mem_of_getElem? (i := 84) rfl)
theorem kw_805 : Cond.code y_Mo_parameterOf prog_7_method_16_code 5 (some FieldType.boolean) ∈ lw_tbl := xm_4 (List.mem_of_getElem? (i := 85) rfl)
theorem kw_806 : Cond.methodLink "MailPartsModel" 197 y_Mo_unquote ∈ lw_tbl := xm_4 (List.mem_of_getElem? (i := 86) rfl)
theorem kw_807 : Cond.privateMethod y_Mo_unquote ∈ lw_tbl := xm_4 (List.mem_of_getElem? (i := 87) rfl)
theorem kw_808 : Cond.instanceMethod y_Mo_unquote ∈ lw_tbl := xm_4 (List.mem_of_getElem? (i := 88) rfl)
theorem kw_809 : Cond.code y_Mo_unquote prog_7_method_17_code 3 none ∈ lw_tbl := xm_4 (List.mem_of_getElem? (i := 89) rfl)
theorem kw_810 : Cond.methodLink "MailPartsModel" 248 y_Mo_findParts ∈ lw_tbl := xm_4 (List.mem_of_getElem? (i := 90) rfl)
theorem kw_811 : Cond.privateMethod y_Mo_findParts ∈ lw_tbl := xm_4 (List.mem_of_getElem? (i := 91) rfl)
theorem kw_812 : Cond.instanceMethod y_Mo_findParts ∈ lw_tbl := xm_4 (List.mem_of_getElem? (i := 92) rfl)
theorem kw_813 : Cond.code y_Mo_findParts prog_7_method_26_code 6 none ∈ lw_tbl := xm_4 (List.mem_of_getElem? (i := 93) rfl)
theorem kw_814 : Cond.methodLink "MailPartsModel" 226 y_Mo_marked ∈ lw_tbl := xm_4 (List.mem_of_getElem? (i := 94) rfl)
theorem kw_815 : Cond.privateMethod y_Mo_marked ∈ lw_tbl := xm_4 (List.mem_of_getElem? (i := 95) rfl)
theorem kw_816 : Cond.instanceMethod y_Mo_marked ∈ lw_tbl := xm_4 (List.mem_of_getElem? (i := 96) rfl)
theorem kw_817 : Cond.code y_Mo_marked prog_7_method_25_code 4 (some FieldType.int) ∈ lw_tbl := xm_4 (List.mem_of_getElem? (i := 97) rfl)
theorem kw_818 : Cond.methodLink "MailPartsModel" 229 y_Mo_add ∈ lw_tbl := xm_4 (List.mem_of_getElem? (i := 98) rfl)
theorem kw_819 : Cond.privateMethod y_Mo_add ∈ lw_tbl := xm_4 (List.mem_of_getElem? (i := 99) rfl)
theorem kw_820 : Cond.instanceMethod y_Mo_add ∈ lw_tbl := xm_4 (List.mem_of_getElem? (i := 100) rfl)
theorem kw_821 : Cond.code y_Mo_add prog_7_method_27_code 3 none ∈ lw_tbl := xm_4 (List.mem_of_getElem? (i := 101) rfl)
theorem kw_822 : Cond.methodLink "MailPartsModel" 255 y_Mo_isEnclosed ∈ lw_tbl := xm_4 (List.mem_of_getElem? (i := 102) rfl)
theorem kw_823 : Cond.privateMethod y_Mo_isEnclosed ∈ lw_tbl := xm_4 (List.mem_of_getElem? (i := 103) rfl)
theorem kw_824 : Cond.instanceMethod y_Mo_isEnclosed ∈ lw_tbl := xm_4 (List.mem_of_getElem? (i := 104) rfl)
theorem kw_825 : Cond.code y_Mo_isEnclosed prog_7_method_30_code 2 (some FieldType.boolean) ∈ lw_tbl := xm_4 (List.mem_of_getElem? (i := 105) rfl)
theorem kw_826 : Cond.methodLink "MailPartsModel" 294 y_Mo_findTexts ∈ lw_tbl := xm_4 (List.mem_of_getElem? (i := 106) rfl)
theorem kw_827 : Cond.privateMethod y_Mo_findTexts ∈ lw_tbl := xm_4 (List.mem_of_getElem? (i := 107) rfl)
theorem kw_828 : Cond.instanceMethod y_Mo_findTexts ∈ lw_tbl := xm_4 (List.mem_of_getElem? (i := 108) rfl)
theorem kw_829 : Cond.code y_Mo_findTexts prog_7_method_34_code 5 none ∈ lw_tbl := xm_4 (List.mem_of_getElem? (i := 109) rfl)
theorem kw_830 : Cond.methodLink "MailPartsModel" 271 y_Mo_isHung ∈ lw_tbl := xm_4 (List.mem_of_getElem? (i := 110) rfl)
theorem kw_831 : Cond.privateMethod y_Mo_isHung ∈ lw_tbl := xm_4 (List.mem_of_getElem? (i := 111) rfl)
theorem kw_832 : Cond.instanceMethod y_Mo_isHung ∈ lw_tbl := xm_4 (List.mem_of_getElem? (i := 112) rfl)
theorem kw_833 : Cond.code y_Mo_isHung prog_7_method_24_code 2 (some FieldType.boolean) ∈ lw_tbl := xm_4 (List.mem_of_getElem? (i := 113) rfl)
theorem kw_834 : Cond.methodLink "MailPartsModel" 274 y_Mo_alternative ∈ lw_tbl := xm_4 (List.mem_of_getElem? (i := 114) rfl)
theorem kw_835 : Cond.privateMethod y_Mo_alternative ∈ lw_tbl := xm_4 (List.mem_of_getElem? (i := 115) rfl)
theorem kw_836 : Cond.instanceMethod y_Mo_alternative ∈ lw_tbl := xm_4 (List.mem_of_getElem? (i := 116) rfl)
theorem kw_837 : Cond.code y_Mo_alternative prog_7_method_33_code 7 (some FieldType.long) ∈ lw_tbl := xm_4 (List.mem_of_getElem? (i := 117) rfl)
theorem kw_838 : Cond.methodLink "MailPartsLaw" 32 y_Mo_entity ∈ lw_tbl := xm_4 (List.mem_of_getElem? (i := 118) rfl)
theorem kw_839 : Cond.instanceMethod y_Mo_entity ∈ lw_tbl := xm_4 (List.mem_of_getElem? (i := 119) rfl)
theorem kw_840 : Cond.selects "MailPartsModel" y_Mo_entity y_Mo_entity ∈ lw_tbl := xm_4 (List.mem_of_getElem? (i := 120) rfl)
theorem kw_841 : Cond.code y_Mo_entity prog_7_method_44_code 4 (some FieldType.int) ∈ lw_tbl := xm_4 (List.mem_of_getElem? (i := 121) rfl)
theorem kw_842 : Cond.methodLink "MailPartsModel" 301 y_Mo_isThere ∈ lw_tbl := xm_4 (List.mem_of_getElem? (i := 122) rfl)
theorem kw_843 : Cond.privateMethod y_Mo_isThere ∈ lw_tbl := xm_4 (List.mem_of_getElem? (i := 123) rfl)
theorem kw_844 : Cond.instanceMethod y_Mo_isThere ∈ lw_tbl := xm_4 (List.mem_of_getElem? (i := 124) rfl)
theorem kw_845 : Cond.code y_Mo_isThere prog_7_method_39_code 2 (some FieldType.boolean) ∈ lw_tbl := xm_4 (List.mem_of_getElem? (i := 125) rfl)
theorem kw_846 : Cond.methodLink "MailPartsModel" 304 y_Mo_place ∈ lw_tbl := xm_4 (List.mem_of_getElem? (i := 126) rfl)
theorem kw_847 : Cond.privateMethod y_Mo_place ∈ lw_tbl := xm_4 (List.mem_of_getElem? (i := 127) rfl)
theorem kw_848 : Cond.instanceMethod y_Mo_place ∈ lw_tbl := xm_4 (List.mem_of_getElem? (i := 128) rfl)
theorem kw_849 : Cond.code y_Mo_place prog_7_method_40_code 2 (some FieldType.int) ∈ lw_tbl := xm_4 (List.mem_of_getElem? (i := 129) rfl)
theorem kw_850 : Cond.methodLink "MailPartsModel" 307 y_Mo_children ∈ lw_tbl := xm_4 (List.mem_of_getElem? (i := 130) rfl)
theorem kw_851 : Cond.privateMethod y_Mo_children ∈ lw_tbl := xm_4 (List.mem_of_getElem? (i := 131) rfl)
theorem kw_852 : Cond.instanceMethod y_Mo_children ∈ lw_tbl := xm_4 (List.mem_of_getElem? (i := 132) rfl)
theorem kw_853 : Cond.code y_Mo_children prog_7_method_41_code 4 (some FieldType.int) ∈ lw_tbl := xm_4 (List.mem_of_getElem? (i := 133) rfl)
theorem kw_854 : Cond.methodLink "MailPartsModel" 310 y_Mo_fields ∈ lw_tbl := xm_4 (List.mem_of_getElem? (i := 134) rfl)
theorem kw_855 : Cond.privateMethod y_Mo_fields ∈ lw_tbl := xm_4 (List.mem_of_getElem? (i := 135) rfl)
theorem kw_856 : Cond.instanceMethod y_Mo_fields ∈ lw_tbl := xm_4 (List.mem_of_getElem? (i := 136) rfl)
theorem kw_857 : Cond.code y_Mo_fields prog_7_method_42_code 6 (some FieldType.int) ∈ lw_tbl := xm_4 (List.mem_of_getElem? (i := 137) rfl)
theorem kw_858 : Cond.methodLink "MailPartsModel" 297 y_Mo_isAlike ∈ lw_tbl := xm_4 (List.mem_of_getElem? (i := 138) rfl)
theorem kw_859 : Cond.privateMethod y_Mo_isAlike ∈ lw_tbl := xm_4 (List.mem_of_getElem? (i := 139) rfl)
theorem kw_860 : Cond.instanceMethod y_Mo_isAlike ∈ lw_tbl := xm_4 (List.mem_of_getElem? (i := 140) rfl)
theorem kw_861 : Cond.code y_Mo_isAlike prog_7_method_43_code 5 (some FieldType.boolean) ∈ lw_tbl := xm_4 (List.mem_of_getElem? (i := 141) rfl)
theorem kw_862 : Cond.methodLink "MailPartsLaw" 36 y_Mo_length ∈ lw_tbl := xm_4 (List.mem_of_getElem? (i := 142) rfl)
theorem kw_863 : Cond.instanceMethod y_Mo_length ∈ lw_tbl := xm_4 (List.mem_of_getElem? (i := 143) rfl)
theorem kw_864 : Cond.selects "MailPartsModel" y_Mo_length y_Mo_length ∈ lw_tbl := xm_4 (List.mem_of_getElem? (i := 144) rfl)
theorem kw_865 : Cond.code y_Mo_length prog_7_method_46_code 3 (some FieldType.int) ∈ lw_tbl := xm_4 (List.mem_of_getElem? (i := 145) rfl)
theorem kw_866 : Cond.methodLink "MailPartsModel" 316 y_Mo_tell ∈ lw_tbl := xm_4 (List.mem_of_getElem? (i := 146) rfl)
theorem kw_867 : Cond.privateMethod y_Mo_tell ∈ lw_tbl := xm_4 (List.mem_of_getElem? (i := 147) rfl)
theorem kw_868 : Cond.instanceMethod y_Mo_tell ∈ lw_tbl := xm_4 (List.mem_of_getElem? (i := 148) rfl)
theorem kw_869 : Cond.code y_Mo_tell prog_7_method_45_code 3 (some FieldType.boolean) ∈ lw_tbl := xm_4 (List.mem_of_getElem? (i := 149) rfl)
theorem kw_870 : Cond.methodLink "MailPartsModel" 313 y_Mo_called ∈ lw_tbl := xm_4 (List.mem_of_getElem? (i := 150) rfl)
theorem kw_871 : Cond.privateMethod y_Mo_called ∈ lw_tbl := xm_4 (List.mem_of_getElem? (i := 151) rfl)
theorem kw_872 : Cond.instanceMethod y_Mo_called ∈ lw_tbl := xm_4 (List.mem_of_getElem? (i := 152) rfl)
theorem kw_873 : Cond.code y_Mo_called prog_7_method_23_code 2 none ∈ lw_tbl := xm_4 (List.mem_of_getElem? (i := 153) rfl)
theorem kw_874 : Cond.methodLink "MailPartsLaw" 41 y_Mo_at ∈ lw_tbl := xm_4 (List.mem_of_getElem? (i := 154) rfl)
theorem kw_875 : Cond.instanceMethod y_Mo_at ∈ lw_tbl := xm_4 (List.mem_of_getElem? (i := 155) rfl)
theorem kw_876 : Cond.selects "MailPartsModel" y_Mo_at y_Mo_at ∈ lw_tbl := xm_4 (List.mem_of_getElem? (i := 156) rfl)
theorem kw_877 : Cond.code y_Mo_at prog_7_method_47_code 4 (some FieldType.int) ∈ lw_tbl := xm_4 (List.mem_of_getElem? (i := 157) rfl)
theorem kw_878 : Cond.methodLink "MailPartsLaw" 45 y_Mo_field ∈ lw_tbl := xm_4 (List.mem_of_getElem? (i := 158) rfl)
theorem kw_879 : Cond.instanceMethod y_Mo_field ∈ lw_tbl := xm_4 (List.mem_of_getElem? (i := 159) rfl)
theorem kw_880 : Cond.selects "MailPartsModel" y_Mo_field y_Mo_field ∈ lw_tbl := xm_4 (List.mem_of_getElem? (i := 160) rfl)
theorem kw_881 : Cond.code y_Mo_field prog_7_method_49_code 4 (some FieldType.int) ∈ lw_tbl := xm_4 (List.mem_of_getElem? (i := 161) rfl)
theorem kw_882 : Cond.methodLink "MailPartsModel" 319 y_Mo_ask ∈ lw_tbl := xm_4 (List.mem_of_getElem? (i := 162) rfl)
theorem kw_883 : Cond.privateMethod y_Mo_ask ∈ lw_tbl := xm_4 (List.mem_of_getElem? (i := 163) rfl)
theorem kw_884 : Cond.instanceMethod y_Mo_ask ∈ lw_tbl := xm_4 (List.mem_of_getElem? (i := 164) rfl)
theorem kw_885 : Cond.code y_Mo_ask prog_7_method_48_code 3 (some FieldType.int) ∈ lw_tbl := xm_4 (List.mem_of_getElem? (i := 165) rfl)
theorem kw_886 : Cond.methodLink "MailPartsLaw" 49 y_Mo_parameter ∈ lw_tbl := xm_4 (List.mem_of_getElem? (i := 166) rfl)
theorem kw_887 : Cond.instanceMethod y_Mo_parameter ∈ lw_tbl := xm_4 (List.mem_of_getElem? (i := 167) rfl)
theorem kw_888 : Cond.selects "MailPartsModel" y_Mo_parameter y_Mo_parameter ∈ lw_tbl := xm_4 (List.mem_of_getElem? (i := 168) rfl)
theorem kw_889 : Cond.code y_Mo_parameter prog_7_method_50_code 4 (some FieldType.int) ∈ lw_tbl := xm_4 (List.mem_of_getElem? (i := 169) rfl)
theorem kw_890 : Cond.methodLink "MailPartsLaw" 53 y_Mo_byteAt ∈ lw_tbl := xm_4 (List.mem_of_getElem? (i := 170) rfl)
theorem kw_891 : Cond.instanceMethod y_Mo_byteAt ∈ lw_tbl := xm_4 (List.mem_of_getElem? (i := 171) rfl)
theorem kw_892 : Cond.selects "MailPartsModel" y_Mo_byteAt y_Mo_byteAt ∈ lw_tbl := xm_4 (List.mem_of_getElem? (i := 172) rfl)
theorem kw_893 : Cond.code y_Mo_byteAt prog_7_method_51_code 2 (some FieldType.int) ∈ lw_tbl := xm_4 (List.mem_of_getElem? (i := 173) rfl)
theorem kw_894 : Cond.methodLink "MailPartsLaw" 58 y_Mo_text ∈ lw_tbl := xm_4 (List.mem_of_getElem? (i := 174) rfl)
theorem kw_895 : Cond.instanceMethod y_Mo_text ∈ lw_tbl := xm_4 (List.mem_of_getElem? (i := 175) rfl)
theorem kw_896 : Cond.selects "MailPartsModel" y_Mo_text y_Mo_text ∈ lw_tbl := xm_4 (List.mem_of_getElem? (i := 176) rfl)
theorem kw_897 : Cond.code y_Mo_text prog_7_method_53_code 5 (some FieldType.int) ∈ lw_tbl := xm_4 (List.mem_of_getElem? (i := 177) rfl)
theorem kw_898 : Cond.methodLink "MailPartsModel" 326 y_Mo_isListed ∈ lw_tbl := xm_4 (List.mem_of_getElem? (i := 178) rfl)
theorem kw_899 : Cond.privateMethod y_Mo_isListed ∈ lw_tbl := xm_4 (List.mem_of_getElem? (i := 179) rfl)
theorem kw_900 : Cond.instanceMethod y_Mo_isListed ∈ lw_tbl := xm_4 (List.mem_of_getElem? (i := 180) rfl)
theorem kw_901 : Cond.code y_Mo_isListed prog_7_method_52_code 3 (some FieldType.boolean) ∈ lw_tbl := xm_4 (List.mem_of_getElem? (i := 181) rfl)
theorem kw_902 : Cond.methodLink "MailPartsModel" 323 y_Mo_isHanging ∈ lw_tbl := xm_4 (List.mem_of_getElem? (i := 182) rfl)
theorem kw_903 : Cond.privateMethod y_Mo_isHanging ∈ lw_tbl := xm_4 (List.mem_of_getElem? (i := 183) rfl)
theorem kw_904 : Cond.instanceMethod y_Mo_isHanging ∈ lw_tbl := xm_4 (List.mem_of_getElem? (i := 184) rfl)
theorem kw_905 : Cond.code y_Mo_isHanging prog_7_method_35_code 2 (some FieldType.boolean) ∈ lw_tbl := xm_4 (List.mem_of_getElem? (i := 185) rfl)
theorem kw_906 : Cond.methodLink "MailPartsLaw" 62 y_Mo_body ∈ lw_tbl := xm_4 (List.mem_of_getElem? (i := 186) rfl)
theorem kw_907 : Cond.instanceMethod y_Mo_body ∈ lw_tbl := xm_4 (List.mem_of_getElem? (i := 187) rfl)
theorem kw_908 : Cond.selects "MailPartsModel" y_Mo_body y_Mo_body ∈ lw_tbl := xm_4 (List.mem_of_getElem? (i := 188) rfl)
theorem kw_909 : Cond.code y_Mo_body prog_7_method_54_code 7 (some FieldType.int) ∈ lw_tbl := xm_4 (List.mem_of_getElem? (i := 189) rfl)
theorem kw_910 : Cond.methodLink "MailPartsModel" 330 y_Mo_put ∈ lw_tbl := xm_4 (List.mem_of_getElem? (i := 190) rfl)
theorem kw_911 : Cond.privateMethod y_Mo_put ∈ lw_tbl := xm_4 (List.mem_of_getElem? (i := 191) rfl)
theorem kw_912 : Cond.instanceMethod y_Mo_put ∈ lw_tbl := xm_4 (List.mem_of_getElem? (i := 192) rfl)
theorem kw_913 : Cond.code y_Mo_put prog_7_method_55_code 3 none ∈ lw_tbl := xm_4 (List.mem_of_getElem? (i := 193) rfl)
theorem kw_914 : Cond.methodLink "MailPartsLaw" 66 y_Mo_count ∈ lw_tbl := xm_4 (List.mem_of_getElem? (i := 194) rfl)
theorem kw_915 : Cond.instanceMethod y_Mo_count ∈ lw_tbl := xm_4 (List.mem_of_getElem? (i := 195) rfl)
theorem kw_916 : Cond.selects "MailPartsModel" y_Mo_count y_Mo_count ∈ lw_tbl := xm_4 (List.mem_of_getElem? (i := 196) rfl)
theorem kw_917 : Cond.code y_Mo_count prog_7_method_56_code 4 (some FieldType.int) ∈ lw_tbl := xm_4 (List.mem_of_getElem? (i := 197) rfl)
theorem kw_918 : Cond.fieldLink "java/lang/String" 9 "java/lang/String" "value" "[B" ∈ lw_tbl := xm_4 (List.mem_of_getElem? (i := 198) rfl)
theorem kw_919 : Cond.fieldLink "java/lang/String" 15 "java/lang/String" "coder" "B" ∈ lw_tbl := xm_4 (List.mem_of_getElem? (i := 199) rfl)
theorem ks_0 : Cond.selects "MailParts" y_Mp_addWord y_Mp_addWord ∈ lw_tbl := xm_s (q := (⟨"MailParts", "addWord", "(I)V"⟩, 16)) (List.mem_append_left _ (List.mem_of_getElem? (i := 0) rfl))
theorem ks_1 : Cond.selects "MailParts$Mail" y_Ma_addLine y_Ma_addLine ∈ lw_tbl := xm_s (q := (⟨"MailParts$Mail", "addLine", "(II)V"⟩, 4)) (List.mem_append_left _ (List.mem_of_getElem? (i := 1) rfl))
theorem ks_2 : Cond.selects "MailParts" y_Mp_openEntity y_Mp_openEntity ∈ lw_tbl := xm_s (q := (⟨"MailParts", "openEntity", "(IIII)V"⟩, 16)) (List.mem_append_left _ (List.mem_of_getElem? (i := 2) rfl))
theorem ks_3 : Cond.selects "MailParts" y_Mp_find y_Mp_find ∈ lw_tbl := xm_s (q := (⟨"MailParts", "find", "(I)LMailParts$Entity;"⟩, 16)) (List.mem_append_left _ (List.mem_of_getElem? (i := 3) rfl))
theorem ks_4 : Cond.selects "MailParts" y_Mp_describe y_Mp_describe ∈ lw_tbl := xm_s (q := (⟨"MailParts", "describe", "(LMailParts$Entity;)V"⟩, 16)) (List.mem_append_left _ (List.mem_of_getElem? (i := 4) rfl))
theorem ks_5 : Cond.selects "MailParts" y_Mp_loadType y_Mp_loadType ∈ lw_tbl := xm_s (q := (⟨"MailParts", "loadType", "(LMailParts$Entity;)V"⟩, 16)) (List.mem_append_left _ (List.mem_of_getElem? (i := 5) rfl))
theorem ks_6 : Cond.selects "MailParts" y_Mp_loadField y_Mp_loadField ∈ lw_tbl := xm_s (q := (⟨"MailParts", "loadField", "(LMailParts$Entity;LMailParts$Row;)Z"⟩, 16)) (List.mem_append_left _ (List.mem_of_getElem? (i := 6) rfl))
theorem ks_7 : Cond.selects "MailParts$Value" y_Va_find y_Va_find ∈ lw_tbl := xm_s (q := (⟨"MailParts$Value", "find", "(III)I"⟩, 1)) (List.mem_append_left _ (List.mem_of_getElem? (i := 7) rfl))
theorem ks_8 : Cond.selects "MailParts$Value" y_Va_keep y_Va_keep ∈ lw_tbl := xm_s (q := (⟨"MailParts$Value", "keep", "(II)V"⟩, 1)) (List.mem_append_left _ (List.mem_of_getElem? (i := 8) rfl))
theorem ks_9 : Cond.selects "MailParts$Value" y_Va_behindBlanks y_Va_behindBlanks ∈ lw_tbl := xm_s (q := (⟨"MailParts$Value", "behindBlanks", "(II)I"⟩, 1)) (List.mem_append_left _ (List.mem_of_getElem? (i := 9) rfl))
theorem ks_10 : Cond.selects "MailParts$Value" y_Va_aheadOfBlanks y_Va_aheadOfBlanks ∈ lw_tbl := xm_s (q := (⟨"MailParts$Value", "aheadOfBlanks", "(II)I"⟩, 1)) (List.mem_append_left _ (List.mem_of_getElem? (i := 10) rfl))
theorem ks_11 : Cond.selects "MailParts" y_Mp_hasBoundary y_Mp_hasBoundary ∈ lw_tbl := xm_s (q := (⟨"MailParts", "hasBoundary", "(LMailParts$Entity;)Z"⟩, 16)) (List.mem_append_left _ (List.mem_of_getElem? (i := 11) rfl))
theorem ks_12 : Cond.selects "MailParts$Value" y_Va_isNamed y_Va_isNamed ∈ lw_tbl := xm_s (q := (⟨"MailParts$Value", "isNamed", "(IILMailParts$Row;)Z"⟩, 1)) (List.mem_append_left _ (List.mem_of_getElem? (i := 12) rfl))
theorem ks_13 : Cond.selects "MailParts$Value" y_Va_unquote y_Va_unquote ∈ lw_tbl := xm_s (q := (⟨"MailParts$Value", "unquote", "()V"⟩, 1)) (List.mem_append_left _ (List.mem_of_getElem? (i := 13) rfl))
theorem ks_14 : Cond.selects "MailParts$Value" y_Va_closing y_Va_closing ∈ lw_tbl := xm_s (q := (⟨"MailParts$Value", "closing", "()I"⟩, 1)) (List.mem_append_left _ (List.mem_of_getElem? (i := 14) rfl))
theorem ks_15 : Cond.selects "MailParts" y_Mp_isOpenCoding y_Mp_isOpenCoding ∈ lw_tbl := xm_s (q := (⟨"MailParts", "isOpenCoding", "(LMailParts$Entity;)Z"⟩, 16)) (List.mem_append_left _ (List.mem_of_getElem? (i := 15) rfl))
theorem ks_16 : Cond.selects "MailParts" y_Mp_openParts y_Mp_openParts ∈ lw_tbl := xm_s (q := (⟨"MailParts", "openParts", "(LMailParts$Entity;II)V"⟩, 16)) (List.mem_append_right _ (List.mem_append_left _ (List.mem_of_getElem? (i := 0) rfl)))
theorem ks_17 : Cond.selects "MailParts$Mail" y_Ma_hasDashes y_Ma_hasDashes ∈ lw_tbl := xm_s (q := (⟨"MailParts$Mail", "hasDashes", "(II)Z"⟩, 4)) (List.mem_append_right _ (List.mem_append_left _ (List.mem_of_getElem? (i := 1) rfl)))
theorem ks_18 : Cond.selects "MailParts" y_Mp_chooseTexts y_Mp_chooseTexts ∈ lw_tbl := xm_s (q := (⟨"MailParts", "chooseTexts", "()V"⟩, 16)) (List.mem_append_right _ (List.mem_append_left _ (List.mem_of_getElem? (i := 2) rfl)))
theorem ks_19 : Cond.selects "MailParts" y_Mp_listLeaves y_Mp_listLeaves ∈ lw_tbl := xm_s (q := (⟨"MailParts", "listLeaves", "()V"⟩, 16)) (List.mem_append_right _ (List.mem_append_left _ (List.mem_of_getElem? (i := 3) rfl)))
theorem ks_20 : Cond.selects "MailParts" y_Mp_countFields y_Mp_countFields ∈ lw_tbl := xm_s (q := (⟨"MailParts", "countFields", "(LMailParts$Entity;)I"⟩, 16)) (List.mem_append_right _ (List.mem_append_left _ (List.mem_of_getElem? (i := 4) rfl)))
theorem ks_21 : Cond.selects "MailParts" y_Mp_loadWord y_Mp_loadWord ∈ lw_tbl := xm_s (q := (⟨"MailParts", "loadWord", "(II)Z"⟩, 16)) (List.mem_append_right _ (List.mem_append_left _ (List.mem_of_getElem? (i := 5) rfl)))
theorem ks_22 : Cond.selects "MailParts" y_Mp_loadName y_Mp_loadName ∈ lw_tbl := xm_s (q := (⟨"MailParts", "loadName", "(LMailParts$Entity;)V"⟩, 16)) (List.mem_append_right _ (List.mem_append_left _ (List.mem_of_getElem? (i := 6) rfl)))
theorem ks_23 : Cond.selects "MailParts" y_Mp_answerOnTape y_Mp_answerOnTape ∈ lw_tbl := xm_s (q := (⟨"MailParts", "answerOnTape", "(Z)I"⟩, 16)) (List.mem_append_right _ (List.mem_append_left _ (List.mem_of_getElem? (i := 7) rfl)))
theorem ks_24 : Cond.selects "MailPartsModel" y_Mo_split y_Mo_split ∈ lw_tbl := xm_s (q := (⟨"MailPartsModel", "split", "()V"⟩, 57)) (List.mem_append_right _ (List.mem_append_left _ (List.mem_of_getElem? (i := 8) rfl)))
theorem ks_25 : Cond.selects "MailPartsModel" y_Mo_build y_Mo_build ∈ lw_tbl := xm_s (q := (⟨"MailPartsModel", "build", "()V"⟩, 57)) (List.mem_append_right _ (List.mem_append_left _ (List.mem_of_getElem? (i := 9) rfl)))
theorem ks_26 : Cond.selects "MailPartsModel" y_Mo_push y_Mo_push ∈ lw_tbl := xm_s (q := (⟨"MailPartsModel", "push", "(III)V"⟩, 57)) (List.mem_append_right _ (List.mem_append_left _ (List.mem_of_getElem? (i := 10) rfl)))
theorem ks_27 : Cond.selects "MailPartsModel" y_Mo_look y_Mo_look ∈ lw_tbl := xm_s (q := (⟨"MailPartsModel", "look", "(I)V"⟩, 57)) (List.mem_append_right _ (List.mem_append_left _ (List.mem_of_getElem? (i := 11) rfl)))
theorem ks_28 : Cond.selects "MailPartsModel" y_Mo_findHead y_Mo_findHead ∈ lw_tbl := xm_s (q := (⟨"MailPartsModel", "findHead", "(I)V"⟩, 57)) (List.mem_append_right _ (List.mem_append_left _ (List.mem_of_getElem? (i := 12) rfl)))
theorem ks_29 : Cond.selects "MailPartsModel" y_Mo_colon y_Mo_colon ∈ lw_tbl := xm_s (q := (⟨"MailPartsModel", "colon", "(I)I"⟩, 57)) (List.mem_append_right _ (List.mem_append_left _ (List.mem_of_getElem? (i := 13) rfl)))
theorem ks_30 : Cond.selects "MailPartsModel" y_Mo_isMulti y_Mo_isMulti ∈ lw_tbl := xm_s (q := (⟨"MailPartsModel", "isMulti", "(I)Z"⟩, 57)) (List.mem_append_right _ (List.mem_append_left _ (List.mem_of_getElem? (i := 14) rfl)))
theorem ks_31 : Cond.selects "MailPartsModel" y_Mo_type y_Mo_type ∈ lw_tbl := xm_s (q := (⟨"MailPartsModel", "type", "(I)V"⟩, 57)) (List.mem_append_right _ (List.mem_append_left _ (List.mem_of_getElem? (i := 15) rfl)))
theorem ks_32 : Cond.selects "MailPartsModel" y_Mo_firstItem y_Mo_firstItem ∈ lw_tbl := xm_s (q := (⟨"MailPartsModel", "firstItem", "(I[I)V"⟩, 57)) (List.mem_append_right _ (List.mem_append_right _ (List.mem_append_left _ (List.mem_of_getElem? (i := 0) rfl))))
theorem ks_33 : Cond.selects "MailPartsModel" y_Mo_nothing y_Mo_nothing ∈ lw_tbl := xm_s (q := (⟨"MailPartsModel", "nothing", "()V"⟩, 57)) (List.mem_append_right _ (List.mem_append_right _ (List.mem_append_left _ (List.mem_of_getElem? (i := 1) rfl))))
theorem ks_34 : Cond.selects "MailPartsModel" y_Mo_find y_Mo_find ∈ lw_tbl := xm_s (q := (⟨"MailPartsModel", "find", "(I[II)Z"⟩, 57)) (List.mem_append_right _ (List.mem_append_right _ (List.mem_append_left _ (List.mem_of_getElem? (i := 2) rfl))))
theorem ks_35 : Cond.selects "MailPartsModel" y_Mo_itemize y_Mo_itemize ∈ lw_tbl := xm_s (q := (⟨"MailPartsModel", "itemize", "()V"⟩, 57)) (List.mem_append_right _ (List.mem_append_right _ (List.mem_append_left _ (List.mem_of_getElem? (i := 3) rfl))))
theorem ks_36 : Cond.selects "MailPartsModel" y_Mo_over y_Mo_over ∈ lw_tbl := xm_s (q := (⟨"MailPartsModel", "over", "(II)I"⟩, 57)) (List.mem_append_right _ (List.mem_append_right _ (List.mem_append_left _ (List.mem_of_getElem? (i := 4) rfl))))
theorem ks_37 : Cond.selects "MailPartsModel" y_Mo_trim y_Mo_trim ∈ lw_tbl := xm_s (q := (⟨"MailPartsModel", "trim", "(II)V"⟩, 57)) (List.mem_append_right _ (List.mem_append_right _ (List.mem_append_left _ (List.mem_of_getElem? (i := 5) rfl))))
theorem ks_38 : Cond.selects "MailPartsModel" y_Mo_keep y_Mo_keep ∈ lw_tbl := xm_s (q := (⟨"MailPartsModel", "keep", "(IIZ)V"⟩, 57)) (List.mem_append_right _ (List.mem_append_right _ (List.mem_append_left _ (List.mem_of_getElem? (i := 6) rfl))))
theorem ks_39 : Cond.selects "MailPartsModel" y_Mo_isType y_Mo_isType ∈ lw_tbl := xm_s (q := (⟨"MailPartsModel", "isType", "()Z"⟩, 57)) (List.mem_append_right _ (List.mem_append_right _ (List.mem_append_left _ (List.mem_of_getElem? (i := 7) rfl))))
theorem ks_40 : Cond.selects "MailPartsModel" y_Mo_isGot y_Mo_isGot ∈ lw_tbl := xm_s (q := (⟨"MailPartsModel", "isGot", "([I)Z"⟩, 57)) (List.mem_append_right _ (List.mem_append_right _ (List.mem_append_left _ (List.mem_of_getElem? (i := 8) rfl))))
theorem ks_41 : Cond.selects "MailPartsModel" y_Mo_set y_Mo_set ∈ lw_tbl := xm_s (q := (⟨"MailPartsModel", "set", "([I)V"⟩, 57)) (List.mem_append_right _ (List.mem_append_right _ (List.mem_append_left _ (List.mem_of_getElem? (i := 9) rfl))))
theorem ks_42 : Cond.selects "MailPartsModel" y_Mo_begins y_Mo_begins ∈ lw_tbl := xm_s (q := (⟨"MailPartsModel", "begins", "([I)Z"⟩, 57)) (List.mem_append_right _ (List.mem_append_right _ (List.mem_append_left _ (List.mem_of_getElem? (i := 10) rfl))))
theorem ks_43 : Cond.selects "MailPartsModel" y_Mo_parameterOf y_Mo_parameterOf ∈ lw_tbl := xm_s (q := (⟨"MailPartsModel", "parameterOf", "([II)Z"⟩, 57)) (List.mem_append_right _ (List.mem_append_right _ (List.mem_append_left _ (List.mem_of_getElem? (i := 11) rfl))))
theorem ks_44 : Cond.selects "MailPartsModel" y_Mo_unquote y_Mo_unquote ∈ lw_tbl := xm_s (q := (⟨"MailPartsModel", "unquote", "()V"⟩, 57)) (List.mem_append_right _ (List.mem_append_right _ (List.mem_append_left _ (List.mem_of_getElem? (i := 12) rfl))))
theorem ks_45 : Cond.selects "MailPartsModel" y_Mo_findParts y_Mo_findParts ∈ lw_tbl := xm_s (q := (⟨"MailPartsModel", "findParts", "(I)V"⟩, 57)) (List.mem_append_right _ (List.mem_append_right _ (List.mem_append_left _ (List.mem_of_getElem? (i := 13) rfl))))
theorem ks_46 : Cond.selects "MailPartsModel" y_Mo_marked y_Mo_marked ∈ lw_tbl := xm_s (q := (⟨"MailPartsModel", "marked", "(I)I"⟩, 57)) (List.mem_append_right _ (List.mem_append_right _ (List.mem_append_left _ (List.mem_of_getElem? (i := 14) rfl))))
theorem ks_47 : Cond.selects "MailPartsModel" y_Mo_add y_Mo_add ∈ lw_tbl := xm_s (q := (⟨"MailPartsModel", "add", "(II)V"⟩, 57)) (List.mem_append_right _ (List.mem_append_right _ (List.mem_append_left _ (List.mem_of_getElem? (i := 15) rfl))))
theorem ks_48 : Cond.selects "MailPartsModel" y_Mo_isEnclosed y_Mo_isEnclosed ∈ lw_tbl := xm_s (q := (⟨"MailPartsModel", "isEnclosed", "(I)Z"⟩, 57)) (List.mem_append_right _ (List.mem_append_right _ (List.mem_append_right _ ((List.mem_of_getElem? (i := 0) rfl)))))
theorem ks_49 : Cond.selects "MailPartsModel" y_Mo_findTexts y_Mo_findTexts ∈ lw_tbl := xm_s (q := (⟨"MailPartsModel", "findTexts", "()V"⟩, 57)) (List.mem_append_right _ (List.mem_append_right _ (List.mem_append_right _ ((List.mem_of_getElem? (i := 1) rfl)))))
theorem ks_50 : Cond.selects "MailPartsModel" y_Mo_isHung y_Mo_isHung ∈ lw_tbl := xm_s (q := (⟨"MailPartsModel", "isHung", "(I)Z"⟩, 57)) (List.mem_append_right _ (List.mem_append_right _ (List.mem_append_right _ ((List.mem_of_getElem? (i := 2) rfl)))))
theorem ks_51 : Cond.selects "MailPartsModel" y_Mo_alternative y_Mo_alternative ∈ lw_tbl := xm_s (q := (⟨"MailPartsModel", "alternative", "(I)J"⟩, 57)) (List.mem_append_right _ (List.mem_append_right _ (List.mem_append_right _ ((List.mem_of_getElem? (i := 3) rfl)))))
theorem ks_52 : Cond.selects "MailPartsModel" y_Mo_isThere y_Mo_isThere ∈ lw_tbl := xm_s (q := (⟨"MailPartsModel", "isThere", "(I)Z"⟩, 57)) (List.mem_append_right _ (List.mem_append_right _ (List.mem_append_right _ ((List.mem_of_getElem? (i := 4) rfl)))))
theorem ks_53 : Cond.selects "MailPartsModel" y_Mo_place y_Mo_place ∈ lw_tbl := xm_s (q := (⟨"MailPartsModel", "place", "(I)I"⟩, 57)) (List.mem_append_right _ (List.mem_append_right _ (List.mem_append_right _ ((List.mem_of_getElem? (i := 5) rfl)))))
theorem ks_54 : Cond.selects "MailPartsModel" y_Mo_children y_Mo_children ∈ lw_tbl := xm_s (q := (⟨"MailPartsModel", "children", "(I)I"⟩, 57)) (List.mem_append_right _ (List.mem_append_right _ (List.mem_append_right _ ((List.mem_of_getElem? (i := 6) rfl)))))
theorem ks_55 : Cond.selects "MailPartsModel" y_Mo_fields y_Mo_fields ∈ lw_tbl := xm_s (q := (⟨"MailPartsModel", "fields", "(I)I"⟩, 57)) (List.mem_append_right _ (List.mem_append_right _ (List.mem_append_right _ ((List.mem_of_getElem? (i := 7) rfl)))))
theorem ks_56 : Cond.selects "MailPartsModel" y_Mo_isAlike y_Mo_isAlike ∈ lw_tbl := xm_s (q := (⟨"MailPartsModel", "isAlike", "(II)Z"⟩, 57)) (List.mem_append_right _ (List.mem_append_right _ (List.mem_append_right _ ((List.mem_of_getElem? (i := 8) rfl)))))
theorem ks_57 : Cond.selects "MailPartsModel" y_Mo_tell y_Mo_tell ∈ lw_tbl := xm_s (q := (⟨"MailPartsModel", "tell", "(II)Z"⟩, 57)) (List.mem_append_right _ (List.mem_append_right _ (List.mem_append_right _ ((List.mem_of_getElem? (i := 9) rfl)))))
theorem ks_58 : Cond.selects "MailPartsModel" y_Mo_called y_Mo_called ∈ lw_tbl := xm_s (q := (⟨"MailPartsModel", "called", "(I)V"⟩, 57)) (List.mem_append_right _ (List.mem_append_right _ (List.mem_append_right _ ((List.mem_of_getElem? (i := 10) rfl)))))
theorem ks_59 : Cond.selects "MailPartsModel" y_Mo_ask y_Mo_ask ∈ lw_tbl := xm_s (q := (⟨"MailPartsModel", "ask", "()I"⟩, 57)) (List.mem_append_right _ (List.mem_append_right _ (List.mem_append_right _ ((List.mem_of_getElem? (i := 11) rfl)))))
theorem ks_60 : Cond.selects "MailPartsModel" y_Mo_isListed y_Mo_isListed ∈ lw_tbl := xm_s (q := (⟨"MailPartsModel", "isListed", "(IZ)Z"⟩, 57)) (List.mem_append_right _ (List.mem_append_right _ (List.mem_append_right _ ((List.mem_of_getElem? (i := 12) rfl)))))
theorem ks_61 : Cond.selects "MailPartsModel" y_Mo_isHanging y_Mo_isHanging ∈ lw_tbl := xm_s (q := (⟨"MailPartsModel", "isHanging", "(I)Z"⟩, 57)) (List.mem_append_right _ (List.mem_append_right _ (List.mem_append_right _ ((List.mem_of_getElem? (i := 13) rfl)))))
theorem ks_62 : Cond.selects "MailPartsModel" y_Mo_put y_Mo_put ∈ lw_tbl := xm_s (q := (⟨"MailPartsModel", "put", "(II)V"⟩, 57)) (List.mem_append_right _ (List.mem_append_right _ (List.mem_append_right _ ((List.mem_of_getElem? (i := 14) rfl)))))
theorem i_En : ∀ w ∈ u_ws "MailParts$Entity" T_En 17, w ∈ lw_tbl ∧ w.onTables = true ∧ w.keepsH = true := by decide +kernel
theorem i_Ma : ∀ w ∈ u_ws "MailParts$Mail" T_Ma 4, w ∈ lw_tbl ∧ w.onTables = true ∧ w.keepsH = true := by decide +kernel
theorem i_Ro : ∀ w ∈ u_ws "MailParts$Row" T_Ro 2, w ∈ lw_tbl ∧ w.onTables = true ∧ w.keepsH = true := by decide +kernel
theorem i_Va : ∀ w ∈ u_ws "MailParts$Value" T_Va 1, w ∈ lw_tbl ∧ w.onTables = true ∧ w.keepsH = true := by decide +kernel
theorem i_Mp : ∀ w ∈ u_ws "MailParts" T_Mp 16, w ∈ lw_tbl ∧ w.onTables = true ∧ w.keepsH = true := by decide +kernel
theorem i_Mo : ∀ w ∈ u_ws "MailPartsModel" T_Mo 57, w ∈ lw_tbl ∧ w.onTables = true ∧ w.keepsH = true := by decide +kernel
end
section
theorem d_Mp_init_0 : decode b_Mp_init 0 = .ok (.aload_n 0, 1) := by decide +kernel
theorem d_Mp_init_1 : decode b_Mp_init 1 = .ok (.invokespecial 1, 3) := by decide +kernel
theorem d_Mp_init_4 : decode b_Mp_init 4 = .ok (.aload_n 0, 1) := by decide +kernel
theorem d_Mp_init_5 : decode b_Mp_init 5 = .ok (.new 7, 3) := by decide +kernel
theorem d_Mp_init_8 : decode b_Mp_init 8 = .ok (.dup, 1) := by decide +kernel
theorem d_Mp_init_9 : decode b_Mp_init 9 = .ok (.bipush 20, 2) := by decide +kernel
theorem d_Mp_init_11 : decode b_Mp_init 11 = .ok (.invokespecial 11, 3) := by decide +kernel
theorem d_Mp_init_14 : decode b_Mp_init 14 = .ok (.putfield 14, 3) := by decide +kernel
theorem d_Mp_init_17 : decode b_Mp_init 17 = .ok (.aload_n 0, 1) := by decide +kernel
theorem d_Mp_init_18 : decode b_Mp_init 18 = .ok (.new 7, 3) := by decide +kernel
theorem d_Mp_init_21 : decode b_Mp_init 21 = .ok (.dup, 1) := by decide +kernel
theorem d_Mp_init_22 : decode b_Mp_init 22 = .ok (.sipush 1500, 3) := by decide +kernel
theorem d_Mp_init_25 : decode b_Mp_init 25 = .ok (.invokespecial 11, 3) := by decide +kernel
theorem d_Mp_init_28 : decode b_Mp_init 28 = .ok (.putfield 18, 3) := by decide +kernel
theorem d_Mp_init_31 : decode b_Mp_init 31 = .ok (.aload_n 0, 1) := by decide +kernel
theorem d_Mp_init_32 : decode b_Mp_init 32 = .ok (.new 21, 3) := by decide +kernel
theorem d_Mp_init_35 : decode b_Mp_init 35 = .ok (.dup, 1) := by decide +kernel
theorem d_Mp_init_36 : decode b_Mp_init 36 = .ok (.invokespecial 23, 3) := by decide +kernel
theorem d_Mp_init_39 : decode b_Mp_init 39 = .ok (.putfield 24, 3) := by decide +kernel
theorem d_Mp_init_42 : decode b_Mp_init 42 = .ok (.aload_n 0, 1) := by decide +kernel
theorem d_Mp_init_43 : decode b_Mp_init 43 = .ok (.new 28, 3) := by decide +kernel
theorem d_Mp_init_46 : decode b_Mp_init 46 = .ok (.dup, 1) := by decide +kernel
theorem d_Mp_init_47 : decode b_Mp_init 47 = .ok (.invokespecial 30, 3) := by decide +kernel
theorem d_Mp_init_50 : decode b_Mp_init 50 = .ok (.putfield 31, 3) := by decide +kernel
theorem d_Mp_init_53 : decode b_Mp_init 53 = .ok (.aload_n 0, 1) := by decide +kernel
theorem d_Mp_init_54 : decode b_Mp_init 54 = .ok (.ldc 35, 2) := by decide +kernel
theorem d_Mp_init_56 : decode b_Mp_init 56 = .ok (.invokestatic 37, 3) := by decide +kernel
theorem d_Mp_init_59 : decode b_Mp_init 59 = .ok (.putfield 41, 3) := by decide +kernel
theorem d_Mp_init_62 : decode b_Mp_init 62 = .ok (.aload_n 0, 1) := by decide +kernel
theorem d_Mp_init_63 : decode b_Mp_init 63 = .ok (.ldc 44, 2) := by decide +kernel
theorem d_Mp_init_65 : decode b_Mp_init 65 = .ok (.invokestatic 37, 3) := by decide +kernel
theorem d_Mp_init_68 : decode b_Mp_init 68 = .ok (.putfield 46, 3) := by decide +kernel
theorem d_Mp_init_71 : decode b_Mp_init 71 = .ok (.aload_n 0, 1) := by decide +kernel
theorem d_Mp_init_72 : decode b_Mp_init 72 = .ok (.ldc 49, 2) := by decide +kernel
theorem d_Mp_init_74 : decode b_Mp_init 74 = .ok (.invokestatic 37, 3) := by decide +kernel
theorem d_Mp_init_77 : decode b_Mp_init 77 = .ok (.putfield 51, 3) := by decide +kernel
theorem d_Mp_init_80 : decode b_Mp_init 80 = .ok (.aload_n 0, 1) := by decide +kernel
theorem d_Mp_init_81 : decode b_Mp_init 81 = .ok (.ldc 54, 2) := by decide +kernel
theorem d_Mp_init_83 : decode b_Mp_init 83 = .ok (.invokestatic 37, 3) := by decide +kernel
theorem d_Mp_init_86 : decode b_Mp_init 86 = .ok (.putfield 56, 3) := by decide +kernel
theorem d_Mp_init_89 : decode b_Mp_init 89 = .ok (.aload_n 0, 1) := by decide +kernel
theorem d_Mp_init_90 : decode b_Mp_init 90 = .ok (.ldc 59, 2) := by decide +kernel
theorem d_Mp_init_92 : decode b_Mp_init 92 = .ok (.invokestatic 37, 3) := by decide +kernel
theorem d_Mp_init_95 : decode b_Mp_init 95 = .ok (.putfield 61, 3) := by decide +kernel
theorem d_Mp_init_98 : decode b_Mp_init 98 = .ok (.aload_n 0, 1) := by decide +kernel
theorem d_Mp_init_99 : decode b_Mp_init 99 = .ok (.ldc 64, 2) := by decide +kernel
theorem d_Mp_init_101 : decode b_Mp_init 101 = .ok (.invokestatic 37, 3) := by decide +kernel
theorem d_Mp_init_104 : decode b_Mp_init 104 = .ok (.putfield 66, 3) := by decide +kernel
theorem d_Mp_init_107 : decode b_Mp_init 107 = .ok (.aload_n 0, 1) := by decide +kernel
theorem d_Mp_init_108 : decode b_Mp_init 108 = .ok (.bipush 60, 2) := by decide +kernel
theorem d_Mp_init_110 : decode b_Mp_init 110 = .ok (.anewarray 69, 3) := by decide +kernel
theorem d_Mp_init_113 : decode b_Mp_init 113 = .ok (.putfield 71, 3) := by decide +kernel
theorem d_Mp_init_116 : decode b_Mp_init 116 = .ok (.iconst 0, 1) := by decide +kernel
theorem d_Mp_init_117 : decode b_Mp_init 117 = .ok (.istore_n 1, 1) := by decide +kernel
theorem d_Mp_init_118 : decode b_Mp_init 118 = .ok (.iload_n 1, 1) := by decide +kernel
theorem d_Mp_init_119 : decode b_Mp_init 119 = .ok (.bipush 60, 2) := by decide +kernel
theorem d_Mp_init_121 : decode b_Mp_init 121 = .ok (.if_icmp .ge 22, 3) := by decide +kernel
theorem d_Mp_init_124 : decode b_Mp_init 124 = .ok (.aload_n 0, 1) := by decide +kernel
theorem d_Mp_init_125 : decode b_Mp_init 125 = .ok (.getfield 71, 3) := by decide +kernel
theorem d_Mp_init_128 : decode b_Mp_init 128 = .ok (.iload_n 1, 1) := by decide +kernel
theorem d_Mp_init_129 : decode b_Mp_init 129 = .ok (.new 69, 3) := by decide +kernel
theorem d_Mp_init_132 : decode b_Mp_init 132 = .ok (.dup, 1) := by decide +kernel
theorem d_Mp_init_133 : decode b_Mp_init 133 = .ok (.invokespecial 75, 3) := by decide +kernel
theorem d_Mp_init_136 : decode b_Mp_init 136 = .ok (.aastore, 1) := by decide +kernel
theorem d_Mp_init_137 : decode b_Mp_init 137 = .ok (.iinc 1 1, 3) := by decide +kernel
theorem d_Mp_init_140 : decode b_Mp_init 140 = .ok (.goto (-22), 3) := by decide +kernel
theorem d_Mp_init_143 : decode b_Mp_init 143 = .ok (.aload_n 0, 1) := by decide +kernel
theorem d_Mp_init_144 : decode b_Mp_init 144 = .ok (.bipush 8, 2) := by decide +kernel
theorem d_Mp_init_146 : decode b_Mp_init 146 = .ok (.anewarray 7, 3) := by decide +kernel
theorem d_Mp_init_149 : decode b_Mp_init 149 = .ok (.putfield 76, 3) := by decide +kernel
theorem d_Mp_init_152 : decode b_Mp_init 152 = .ok (.iconst 0, 1) := by decide +kernel
theorem d_Mp_init_153 : decode b_Mp_init 153 = .ok (.istore_n 1, 1) := by decide +kernel
theorem d_Mp_init_154 : decode b_Mp_init 154 = .ok (.iload_n 1, 1) := by decide +kernel
theorem d_Mp_init_155 : decode b_Mp_init 155 = .ok (.bipush 8, 2) := by decide +kernel
theorem d_Mp_init_157 : decode b_Mp_init 157 = .ok (.if_icmp .ge 24, 3) := by decide +kernel
theorem d_Mp_init_160 : decode b_Mp_init 160 = .ok (.aload_n 0, 1) := by decide +kernel
theorem d_Mp_init_161 : decode b_Mp_init 161 = .ok (.getfield 76, 3) := by decide +kernel
theorem d_Mp_init_164 : decode b_Mp_init 164 = .ok (.iload_n 1, 1) := by decide +kernel
theorem d_Mp_init_165 : decode b_Mp_init 165 = .ok (.new 7, 3) := by decide +kernel
theorem d_Mp_init_168 : decode b_Mp_init 168 = .ok (.dup, 1) := by decide +kernel
theorem d_Mp_init_169 : decode b_Mp_init 169 = .ok (.bipush 70, 2) := by decide +kernel
theorem d_Mp_init_171 : decode b_Mp_init 171 = .ok (.invokespecial 11, 3) := by decide +kernel
theorem d_Mp_init_174 : decode b_Mp_init 174 = .ok (.aastore, 1) := by decide +kernel
theorem d_Mp_init_175 : decode b_Mp_init 175 = .ok (.iinc 1 1, 3) := by decide +kernel
theorem d_Mp_init_178 : decode b_Mp_init 178 = .ok (.goto (-24), 3) := by decide +kernel
theorem d_Mp_init_181 : decode b_Mp_init 181 = .ok (.aload_n 0, 1) := by decide +kernel
theorem d_Mp_init_182 : decode b_Mp_init 182 = .ok (.new 7, 3) := by decide +kernel
theorem d_Mp_init_185 : decode b_Mp_init 185 = .ok (.dup, 1) := by decide +kernel
theorem d_Mp_init_186 : decode b_Mp_init 186 = .ok (.bipush 60, 2) := by decide +kernel
theorem d_Mp_init_188 : decode b_Mp_init 188 = .ok (.invokespecial 11, 3) := by decide +kernel
theorem d_Mp_init_191 : decode b_Mp_init 191 = .ok (.putfield 80, 3) := by decide +kernel
theorem d_Mp_init_194 : decode b_Mp_init 194 = .ok (.aload_n 0, 1) := by decide +kernel
theorem d_Mp_init_195 : decode b_Mp_init 195 = .ok (.new 7, 3) := by decide +kernel
theorem d_Mp_init_198 : decode b_Mp_init 198 = .ok (.dup, 1) := by decide +kernel
theorem d_Mp_init_199 : decode b_Mp_init 199 = .ok (.bipush 60, 2) := by decide +kernel
theorem d_Mp_init_201 : decode b_Mp_init 201 = .ok (.invokespecial 11, 3) := by decide +kernel
theorem d_Mp_init_204 : decode b_Mp_init 204 = .ok (.putfield 83, 3) := by decide +kernel
theorem d_Mp_init_207 : decode b_Mp_init 207 = .ok (.aload_n 0, 1) := by decide +kernel
theorem d_Mp_init_208 : decode b_Mp_init 208 = .ok (.iconst 0, 1) := by decide +kernel
theorem d_Mp_init_209 : decode b_Mp_init 209 = .ok (.putfield 86, 3) := by decide +kernel
theorem d_Mp_init_212 : decode b_Mp_init 212 = .ok (.aload_n 0, 1) := by decide +kernel
theorem d_Mp_init_213 : decode b_Mp_init 213 = .ok (.iconst 0, 1) := by decide +kernel
theorem d_Mp_init_214 : decode b_Mp_init 214 = .ok (.putfield 90, 3) := by decide +kernel
theorem d_Mp_init_217 : decode b_Mp_init 217 = .ok (.return_, 1) := by decide +kernel
theorem d_Mp_feed_0 : decode b_Mp_feed 0 = .ok (.aload_n 0, 1) := by decide +kernel
theorem d_Mp_feed_1 : decode b_Mp_feed 1 = .ok (.getfield 14, 3) := by decide +kernel
theorem d_Mp_feed_4 : decode b_Mp_feed 4 = .ok (.invokevirtual 93, 3) := by decide +kernel
theorem d_Mp_feed_7 : decode b_Mp_feed 7 = .ok (.aload_n 0, 1) := by decide +kernel
theorem d_Mp_feed_8 : decode b_Mp_feed 8 = .ok (.iload_n 1, 1) := by decide +kernel
theorem d_Mp_feed_9 : decode b_Mp_feed 9 = .ok (.invokevirtual 96, 3) := by decide +kernel
theorem d_Mp_feed_12 : decode b_Mp_feed 12 = .ok (.aload_n 0, 1) := by decide +kernel
theorem d_Mp_feed_13 : decode b_Mp_feed 13 = .ok (.iload_n 2, 1) := by decide +kernel
theorem d_Mp_feed_14 : decode b_Mp_feed 14 = .ok (.invokevirtual 96, 3) := by decide +kernel
theorem d_Mp_feed_17 : decode b_Mp_feed 17 = .ok (.aload_n 0, 1) := by decide +kernel
theorem d_Mp_feed_18 : decode b_Mp_feed 18 = .ok (.iload_n 3, 1) := by decide +kernel
theorem d_Mp_feed_19 : decode b_Mp_feed 19 = .ok (.invokevirtual 96, 3) := by decide +kernel
theorem d_Mp_feed_22 : decode b_Mp_feed 22 = .ok (.aload_n 0, 1) := by decide +kernel
theorem d_Mp_feed_23 : decode b_Mp_feed 23 = .ok (.iload 4, 2) := by decide +kernel
theorem d_Mp_feed_25 : decode b_Mp_feed 25 = .ok (.invokevirtual 96, 3) := by decide +kernel
theorem d_Mp_feed_28 : decode b_Mp_feed 28 = .ok (.aload_n 0, 1) := by decide +kernel
theorem d_Mp_feed_29 : decode b_Mp_feed 29 = .ok (.iload 5, 2) := by decide +kernel
theorem d_Mp_feed_31 : decode b_Mp_feed 31 = .ok (.invokevirtual 96, 3) := by decide +kernel
theorem d_Mp_feed_34 : decode b_Mp_feed 34 = .ok (.return_, 1) := by decide +kernel
theorem d_Mp_end_0 : decode b_Mp_end 0 = .ok (.iload_n 1, 1) := by decide +kernel
theorem d_Mp_end_1 : decode b_Mp_end 1 = .ok (.ifCond .lt 24, 3) := by decide +kernel
theorem d_Mp_end_4 : decode b_Mp_end 4 = .ok (.iload_n 1, 1) := by decide +kernel
theorem d_Mp_end_5 : decode b_Mp_end 5 = .ok (.bipush 20, 2) := by decide +kernel
theorem d_Mp_end_7 : decode b_Mp_end 7 = .ok (.if_icmp .gt 18, 3) := by decide +kernel
theorem d_Mp_end_10 : decode b_Mp_end 10 = .ok (.aload_n 0, 1) := by decide +kernel
theorem d_Mp_end_11 : decode b_Mp_end 11 = .ok (.getfield 18, 3) := by decide +kernel
theorem d_Mp_end_14 : decode b_Mp_end 14 = .ok (.getfield 99, 3) := by decide +kernel
theorem d_Mp_end_17 : decode b_Mp_end 17 = .ok (.iload_n 1, 1) := by decide +kernel
theorem d_Mp_end_18 : decode b_Mp_end 18 = .ok (.iadd, 1) := by decide +kernel
theorem d_Mp_end_19 : decode b_Mp_end 19 = .ok (.sipush 1500, 3) := by decide +kernel
theorem d_Mp_end_22 : decode b_Mp_end 22 = .ok (.if_icmp .le 5, 3) := by decide +kernel
theorem d_Mp_end_25 : decode b_Mp_end 25 = .ok (.iconst (-1), 1) := by decide +kernel
theorem d_Mp_end_26 : decode b_Mp_end 26 = .ok (.ireturn, 1) := by decide +kernel
theorem d_Mp_end_27 : decode b_Mp_end 27 = .ok (.iconst 0, 1) := by decide +kernel
theorem d_Mp_end_28 : decode b_Mp_end 28 = .ok (.istore_n 2, 1) := by decide +kernel
theorem d_Mp_end_29 : decode b_Mp_end 29 = .ok (.iload_n 2, 1) := by decide +kernel
theorem d_Mp_end_30 : decode b_Mp_end 30 = .ok (.iload_n 1, 1) := by decide +kernel
theorem d_Mp_end_31 : decode b_Mp_end 31 = .ok (.if_icmp .ge 28, 3) := by decide +kernel
theorem d_Mp_end_34 : decode b_Mp_end 34 = .ok (.aload_n 0, 1) := by decide +kernel
theorem d_Mp_end_35 : decode b_Mp_end 35 = .ok (.getfield 18, 3) := by decide +kernel
theorem d_Mp_end_38 : decode b_Mp_end 38 = .ok (.aload_n 0, 1) := by decide +kernel
theorem d_Mp_end_39 : decode b_Mp_end 39 = .ok (.getfield 14, 3) := by decide +kernel
theorem d_Mp_end_42 : decode b_Mp_end 42 = .ok (.iload_n 2, 1) := by decide +kernel
theorem d_Mp_end_43 : decode b_Mp_end 43 = .ok (.invokevirtual 102, 3) := by decide +kernel
theorem d_Mp_end_46 : decode b_Mp_end 46 = .ok (.iconst 0, 1) := by decide +kernel
theorem d_Mp_end_47 : decode b_Mp_end 47 = .ok (.invokestatic 106, 3) := by decide +kernel
theorem d_Mp_end_50 : decode b_Mp_end 50 = .ok (.invokevirtual 112, 3) := by decide +kernel
theorem d_Mp_end_53 : decode b_Mp_end 53 = .ok (.iinc 2 1, 3) := by decide +kernel
theorem d_Mp_end_56 : decode b_Mp_end 56 = .ok (.goto (-27), 3) := by decide +kernel
theorem d_Mp_end_59 : decode b_Mp_end 59 = .ok (.aload_n 0, 1) := by decide +kernel
theorem d_Mp_end_60 : decode b_Mp_end 60 = .ok (.getfield 14, 3) := by decide +kernel
theorem d_Mp_end_63 : decode b_Mp_end 63 = .ok (.invokevirtual 93, 3) := by decide +kernel
theorem d_Mp_end_66 : decode b_Mp_end 66 = .ok (.aload_n 0, 1) := by decide +kernel
theorem d_Mp_end_67 : decode b_Mp_end 67 = .ok (.getfield 18, 3) := by decide +kernel
theorem d_Mp_end_70 : decode b_Mp_end 70 = .ok (.getfield 99, 3) := by decide +kernel
theorem d_Mp_end_73 : decode b_Mp_end 73 = .ok (.ireturn, 1) := by decide +kernel
theorem d_Mp_read_0 : decode b_Mp_read 0 = .ok (.aload_n 0, 1) := by decide +kernel
theorem d_Mp_read_1 : decode b_Mp_read 1 = .ok (.getfield 24, 3) := by decide +kernel
theorem d_Mp_read_4 : decode b_Mp_read 4 = .ok (.aload_n 0, 1) := by decide +kernel
theorem d_Mp_read_5 : decode b_Mp_read 5 = .ok (.getfield 18, 3) := by decide +kernel
theorem d_Mp_read_8 : decode b_Mp_read 8 = .ok (.invokevirtual 115, 3) := by decide +kernel
theorem d_Mp_read_11 : decode b_Mp_read 11 = .ok (.aload_n 0, 1) := by decide +kernel
theorem d_Mp_read_12 : decode b_Mp_read 12 = .ok (.getfield 18, 3) := by decide +kernel
theorem d_Mp_read_15 : decode b_Mp_read 15 = .ok (.invokevirtual 93, 3) := by decide +kernel
theorem d_Mp_read_18 : decode b_Mp_read 18 = .ok (.aload_n 0, 1) := by decide +kernel
theorem d_Mp_read_19 : decode b_Mp_read 19 = .ok (.iconst 0, 1) := by decide +kernel
theorem d_Mp_read_20 : decode b_Mp_read 20 = .ok (.putfield 86, 3) := by decide +kernel
theorem d_Mp_read_23 : decode b_Mp_read 23 = .ok (.aload_n 0, 1) := by decide +kernel
theorem d_Mp_read_24 : decode b_Mp_read 24 = .ok (.iconst 0, 1) := by decide +kernel
theorem d_Mp_read_25 : decode b_Mp_read 25 = .ok (.putfield 90, 3) := by decide +kernel
theorem d_Mp_read_28 : decode b_Mp_read 28 = .ok (.aload_n 0, 1) := by decide +kernel
theorem d_Mp_read_29 : decode b_Mp_read 29 = .ok (.iconst 0, 1) := by decide +kernel
theorem d_Mp_read_30 : decode b_Mp_read 30 = .ok (.aload_n 0, 1) := by decide +kernel
theorem d_Mp_read_31 : decode b_Mp_read 31 = .ok (.getfield 24, 3) := by decide +kernel
theorem d_Mp_read_34 : decode b_Mp_read 34 = .ok (.getfield 119, 3) := by decide +kernel
theorem d_Mp_read_37 : decode b_Mp_read 37 = .ok (.iconst (-1), 1) := by decide +kernel
theorem d_Mp_read_38 : decode b_Mp_read 38 = .ok (.iconst 0, 1) := by decide +kernel
theorem d_Mp_read_39 : decode b_Mp_read 39 = .ok (.invokevirtual 122, 3) := by decide +kernel
theorem d_Mp_read_42 : decode b_Mp_read 42 = .ok (.aload_n 0, 1) := by decide +kernel
theorem d_Mp_read_43 : decode b_Mp_read 43 = .ok (.invokevirtual 126, 3) := by decide +kernel
theorem d_Mp_read_46 : decode b_Mp_read 46 = .ok (.aload_n 0, 1) := by decide +kernel
theorem d_Mp_read_47 : decode b_Mp_read 47 = .ok (.invokevirtual 129, 3) := by decide +kernel
theorem d_Mp_read_50 : decode b_Mp_read 50 = .ok (.aload_n 0, 1) := by decide +kernel
theorem d_Mp_read_51 : decode b_Mp_read 51 = .ok (.getfield 86, 3) := by decide +kernel
theorem d_Mp_read_54 : decode b_Mp_read 54 = .ok (.ireturn, 1) := by decide +kernel
theorem d_Mp_entity_0 : decode b_Mp_entity 0 = .ok (.aload_n 0, 1) := by decide +kernel
theorem d_Mp_entity_1 : decode b_Mp_entity 1 = .ok (.iload_n 1, 1) := by decide +kernel
theorem d_Mp_entity_2 : decode b_Mp_entity 2 = .ok (.invokevirtual 132, 3) := by decide +kernel
theorem d_Mp_entity_5 : decode b_Mp_entity 5 = .ok (.astore_n 3, 1) := by decide +kernel
theorem d_Mp_entity_6 : decode b_Mp_entity 6 = .ok (.aload_n 3, 1) := by decide +kernel
theorem d_Mp_entity_7 : decode b_Mp_entity 7 = .ok (.ifnonnull 5, 3) := by decide +kernel
theorem d_Mp_entity_10 : decode b_Mp_entity 10 = .ok (.iconst (-1), 1) := by decide +kernel
theorem d_Mp_entity_11 : decode b_Mp_entity 11 = .ok (.ireturn, 1) := by decide +kernel
theorem d_Mp_entity_12 : decode b_Mp_entity 12 = .ok (.iload_n 2, 1) := by decide +kernel
theorem d_Mp_entity_13 : decode b_Mp_entity 13 = .ok (.tableswitch 162 0 9 #[55, 60, 65, 70, 83, 95, 131, 141, 151, 156], 55) := by decide +kernel
theorem d_Mp_entity_68 : decode b_Mp_entity 68 = .ok (.aload_n 3, 1) := by decide +kernel
theorem d_Mp_entity_69 : decode b_Mp_entity 69 = .ok (.getfield 136, 3) := by decide +kernel
theorem d_Mp_entity_72 : decode b_Mp_entity 72 = .ok (.ireturn, 1) := by decide +kernel
theorem d_Mp_entity_73 : decode b_Mp_entity 73 = .ok (.aload_n 3, 1) := by decide +kernel
theorem d_Mp_entity_74 : decode b_Mp_entity 74 = .ok (.getfield 139, 3) := by decide +kernel
theorem d_Mp_entity_77 : decode b_Mp_entity 77 = .ok (.ireturn, 1) := by decide +kernel
theorem d_Mp_entity_78 : decode b_Mp_entity 78 = .ok (.aload_n 3, 1) := by decide +kernel
theorem d_Mp_entity_79 : decode b_Mp_entity 79 = .ok (.getfield 142, 3) := by decide +kernel
theorem d_Mp_entity_82 : decode b_Mp_entity 82 = .ok (.ireturn, 1) := by decide +kernel
theorem d_Mp_entity_83 : decode b_Mp_entity 83 = .ok (.aload_n 3, 1) := by decide +kernel
theorem d_Mp_entity_84 : decode b_Mp_entity 84 = .ok (.getfield 145, 3) := by decide +kernel
theorem d_Mp_entity_87 : decode b_Mp_entity 87 = .ok (.ifCond .eq 7, 3) := by decide +kernel
theorem d_Mp_entity_90 : decode b_Mp_entity 90 = .ok (.iconst 1, 1) := by decide +kernel
theorem d_Mp_entity_91 : decode b_Mp_entity 91 = .ok (.goto 4, 3) := by decide +kernel
theorem d_Mp_entity_94 : decode b_Mp_entity 94 = .ok (.iconst 0, 1) := by decide +kernel
theorem d_Mp_entity_95 : decode b_Mp_entity 95 = .ok (.ireturn, 1) := by decide +kernel
theorem d_Mp_entity_96 : decode b_Mp_entity 96 = .ok (.aload_n 0, 1) := by decide +kernel
theorem d_Mp_entity_97 : decode b_Mp_entity 97 = .ok (.getfield 24, 3) := by decide +kernel
theorem d_Mp_entity_100 : decode b_Mp_entity 100 = .ok (.aload_n 3, 1) := by decide +kernel
theorem d_Mp_entity_101 : decode b_Mp_entity 101 = .ok (.getfield 149, 3) := by decide +kernel
theorem d_Mp_entity_104 : decode b_Mp_entity 104 = .ok (.invokevirtual 152, 3) := by decide +kernel
theorem d_Mp_entity_107 : decode b_Mp_entity 107 = .ok (.ireturn, 1) := by decide +kernel
theorem d_Mp_entity_108 : decode b_Mp_entity 108 = .ok (.aload_n 3, 1) := by decide +kernel
theorem d_Mp_entity_109 : decode b_Mp_entity 109 = .ok (.getfield 155, 3) := by decide +kernel
theorem d_Mp_entity_112 : decode b_Mp_entity 112 = .ok (.aload_n 3, 1) := by decide +kernel
theorem d_Mp_entity_113 : decode b_Mp_entity 113 = .ok (.getfield 158, 3) := by decide +kernel
theorem d_Mp_entity_116 : decode b_Mp_entity 116 = .ok (.if_icmp .ge 17, 3) := by decide +kernel
theorem d_Mp_entity_119 : decode b_Mp_entity 119 = .ok (.aload_n 0, 1) := by decide +kernel
theorem d_Mp_entity_120 : decode b_Mp_entity 120 = .ok (.getfield 24, 3) := by decide +kernel
theorem d_Mp_entity_123 : decode b_Mp_entity 123 = .ok (.aload_n 3, 1) := by decide +kernel
theorem d_Mp_entity_124 : decode b_Mp_entity 124 = .ok (.getfield 155, 3) := by decide +kernel
theorem d_Mp_entity_127 : decode b_Mp_entity 127 = .ok (.invokevirtual 152, 3) := by decide +kernel
theorem d_Mp_entity_130 : decode b_Mp_entity 130 = .ok (.goto 13, 3) := by decide +kernel
theorem d_Mp_entity_133 : decode b_Mp_entity 133 = .ok (.aload_n 0, 1) := by decide +kernel
theorem d_Mp_entity_134 : decode b_Mp_entity 134 = .ok (.getfield 24, 3) := by decide +kernel
theorem d_Mp_entity_137 : decode b_Mp_entity 137 = .ok (.getfield 161, 3) := by decide +kernel
theorem d_Mp_entity_140 : decode b_Mp_entity 140 = .ok (.getfield 99, 3) := by decide +kernel
theorem d_Mp_entity_143 : decode b_Mp_entity 143 = .ok (.ireturn, 1) := by decide +kernel
theorem d_Mp_entity_144 : decode b_Mp_entity 144 = .ok (.aload_n 3, 1) := by decide +kernel
theorem d_Mp_entity_145 : decode b_Mp_entity 145 = .ok (.getfield 164, 3) := by decide +kernel
theorem d_Mp_entity_148 : decode b_Mp_entity 148 = .ok (.aload_n 3, 1) := by decide +kernel
theorem d_Mp_entity_149 : decode b_Mp_entity 149 = .ok (.getfield 149, 3) := by decide +kernel
theorem d_Mp_entity_152 : decode b_Mp_entity 152 = .ok (.isub, 1) := by decide +kernel
theorem d_Mp_entity_153 : decode b_Mp_entity 153 = .ok (.ireturn, 1) := by decide +kernel
theorem d_Mp_entity_154 : decode b_Mp_entity 154 = .ok (.aload_n 3, 1) := by decide +kernel
theorem d_Mp_entity_155 : decode b_Mp_entity 155 = .ok (.getfield 158, 3) := by decide +kernel
theorem d_Mp_entity_158 : decode b_Mp_entity 158 = .ok (.aload_n 3, 1) := by decide +kernel
theorem d_Mp_entity_159 : decode b_Mp_entity 159 = .ok (.getfield 155, 3) := by decide +kernel
theorem d_Mp_entity_162 : decode b_Mp_entity 162 = .ok (.isub, 1) := by decide +kernel
theorem d_Mp_entity_163 : decode b_Mp_entity 163 = .ok (.ireturn, 1) := by decide +kernel
theorem d_Mp_entity_164 : decode b_Mp_entity 164 = .ok (.aload_n 3, 1) := by decide +kernel
theorem d_Mp_entity_165 : decode b_Mp_entity 165 = .ok (.getfield 167, 3) := by decide +kernel
theorem d_Mp_entity_168 : decode b_Mp_entity 168 = .ok (.ireturn, 1) := by decide +kernel
theorem d_Mp_entity_169 : decode b_Mp_entity 169 = .ok (.aload_n 0, 1) := by decide +kernel
theorem d_Mp_entity_170 : decode b_Mp_entity 170 = .ok (.aload_n 3, 1) := by decide +kernel
theorem d_Mp_entity_171 : decode b_Mp_entity 171 = .ok (.invokevirtual 170, 3) := by decide +kernel
theorem d_Mp_entity_174 : decode b_Mp_entity 174 = .ok (.ireturn, 1) := by decide +kernel
theorem d_Mp_entity_175 : decode b_Mp_entity 175 = .ok (.iconst (-1), 1) := by decide +kernel
theorem d_Mp_entity_176 : decode b_Mp_entity 176 = .ok (.ireturn, 1) := by decide +kernel
theorem d_Mp_length_0 : decode b_Mp_length 0 = .ok (.aload_n 0, 1) := by decide +kernel
theorem d_Mp_length_1 : decode b_Mp_length 1 = .ok (.iload_n 1, 1) := by decide +kernel
theorem d_Mp_length_2 : decode b_Mp_length 2 = .ok (.iload_n 2, 1) := by decide +kernel
theorem d_Mp_length_3 : decode b_Mp_length 3 = .ok (.invokevirtual 174, 3) := by decide +kernel
theorem d_Mp_length_6 : decode b_Mp_length 6 = .ok (.ifCond .eq 16, 3) := by decide +kernel
theorem d_Mp_length_9 : decode b_Mp_length 9 = .ok (.aload_n 0, 1) := by decide +kernel
theorem d_Mp_length_10 : decode b_Mp_length 10 = .ok (.getfield 31, 3) := by decide +kernel
theorem d_Mp_length_13 : decode b_Mp_length 13 = .ok (.getfield 178, 3) := by decide +kernel
theorem d_Mp_length_16 : decode b_Mp_length 16 = .ok (.getfield 99, 3) := by decide +kernel
theorem d_Mp_length_19 : decode b_Mp_length 19 = .ok (.goto 4, 3) := by decide +kernel
theorem d_Mp_length_22 : decode b_Mp_length 22 = .ok (.iconst (-1), 1) := by decide +kernel
theorem d_Mp_length_23 : decode b_Mp_length 23 = .ok (.ireturn, 1) := by decide +kernel
theorem d_Mp_at_0 : decode b_Mp_at 0 = .ok (.aload_n 0, 1) := by decide +kernel
theorem d_Mp_at_1 : decode b_Mp_at 1 = .ok (.iload_n 1, 1) := by decide +kernel
theorem d_Mp_at_2 : decode b_Mp_at 2 = .ok (.iload_n 2, 1) := by decide +kernel
theorem d_Mp_at_3 : decode b_Mp_at 3 = .ok (.invokevirtual 174, 3) := by decide +kernel
theorem d_Mp_at_6 : decode b_Mp_at 6 = .ok (.ifCond .eq 17, 3) := by decide +kernel
theorem d_Mp_at_9 : decode b_Mp_at 9 = .ok (.aload_n 0, 1) := by decide +kernel
theorem d_Mp_at_10 : decode b_Mp_at 10 = .ok (.getfield 31, 3) := by decide +kernel
theorem d_Mp_at_13 : decode b_Mp_at 13 = .ok (.getfield 178, 3) := by decide +kernel
theorem d_Mp_at_16 : decode b_Mp_at 16 = .ok (.iload_n 3, 1) := by decide +kernel
theorem d_Mp_at_17 : decode b_Mp_at 17 = .ok (.invokevirtual 102, 3) := by decide +kernel
theorem d_Mp_at_20 : decode b_Mp_at 20 = .ok (.goto 4, 3) := by decide +kernel
theorem d_Mp_at_23 : decode b_Mp_at 23 = .ok (.iconst (-1), 1) := by decide +kernel
theorem d_Mp_at_24 : decode b_Mp_at 24 = .ok (.ireturn, 1) := by decide +kernel
theorem d_Mp_field_0 : decode b_Mp_field 0 = .ok (.aload_n 0, 1) := by decide +kernel
theorem d_Mp_field_1 : decode b_Mp_field 1 = .ok (.iload_n 1, 1) := by decide +kernel
theorem d_Mp_field_2 : decode b_Mp_field 2 = .ok (.invokevirtual 132, 3) := by decide +kernel
theorem d_Mp_field_5 : decode b_Mp_field 5 = .ok (.astore_n 2, 1) := by decide +kernel
theorem d_Mp_field_6 : decode b_Mp_field 6 = .ok (.aload_n 2, 1) := by decide +kernel
theorem d_Mp_field_7 : decode b_Mp_field 7 = .ok (.ifnull 19, 3) := by decide +kernel
theorem d_Mp_field_10 : decode b_Mp_field 10 = .ok (.aload_n 0, 1) := by decide +kernel
theorem d_Mp_field_11 : decode b_Mp_field 11 = .ok (.aload_n 2, 1) := by decide +kernel
theorem d_Mp_field_12 : decode b_Mp_field 12 = .ok (.aload_n 0, 1) := by decide +kernel
theorem d_Mp_field_13 : decode b_Mp_field 13 = .ok (.getfield 18, 3) := by decide +kernel
theorem d_Mp_field_16 : decode b_Mp_field 16 = .ok (.invokevirtual 179, 3) := by decide +kernel
theorem d_Mp_field_19 : decode b_Mp_field 19 = .ok (.ifCond .eq 7, 3) := by decide +kernel
theorem d_Mp_field_22 : decode b_Mp_field 22 = .ok (.iconst 1, 1) := by decide +kernel
theorem d_Mp_field_23 : decode b_Mp_field 23 = .ok (.goto 4, 3) := by decide +kernel
theorem d_Mp_field_26 : decode b_Mp_field 26 = .ok (.iconst 0, 1) := by decide +kernel
theorem d_Mp_field_27 : decode b_Mp_field 27 = .ok (.istore_n 3, 1) := by decide +kernel
theorem d_Mp_field_28 : decode b_Mp_field 28 = .ok (.aload_n 0, 1) := by decide +kernel
theorem d_Mp_field_29 : decode b_Mp_field 29 = .ok (.iload_n 3, 1) := by decide +kernel
theorem d_Mp_field_30 : decode b_Mp_field 30 = .ok (.invokevirtual 183, 3) := by decide +kernel
theorem d_Mp_field_33 : decode b_Mp_field 33 = .ok (.ireturn, 1) := by decide +kernel
theorem d_Mp_parameter_0 : decode b_Mp_parameter 0 = .ok (.aload_n 0, 1) := by decide +kernel
theorem d_Mp_parameter_1 : decode b_Mp_parameter 1 = .ok (.iload_n 1, 1) := by decide +kernel
theorem d_Mp_parameter_2 : decode b_Mp_parameter 2 = .ok (.invokevirtual 132, 3) := by decide +kernel
theorem d_Mp_parameter_5 : decode b_Mp_parameter 5 = .ok (.astore_n 2, 1) := by decide +kernel
theorem d_Mp_parameter_6 : decode b_Mp_parameter 6 = .ok (.aload_n 2, 1) := by decide +kernel
theorem d_Mp_parameter_7 : decode b_Mp_parameter 7 = .ok (.ifnull 33, 3) := by decide +kernel
theorem d_Mp_parameter_10 : decode b_Mp_parameter 10 = .ok (.aload_n 0, 1) := by decide +kernel
theorem d_Mp_parameter_11 : decode b_Mp_parameter 11 = .ok (.aload_n 2, 1) := by decide +kernel
theorem d_Mp_parameter_12 : decode b_Mp_parameter 12 = .ok (.aload_n 0, 1) := by decide +kernel
theorem d_Mp_parameter_13 : decode b_Mp_parameter 13 = .ok (.getfield 41, 3) := by decide +kernel
theorem d_Mp_parameter_16 : decode b_Mp_parameter 16 = .ok (.invokevirtual 179, 3) := by decide +kernel
theorem d_Mp_parameter_19 : decode b_Mp_parameter 19 = .ok (.ifCond .eq 21, 3) := by decide +kernel
theorem d_Mp_parameter_22 : decode b_Mp_parameter 22 = .ok (.aload_n 0, 1) := by decide +kernel
theorem d_Mp_parameter_23 : decode b_Mp_parameter 23 = .ok (.getfield 31, 3) := by decide +kernel
theorem d_Mp_parameter_26 : decode b_Mp_parameter 26 = .ok (.aload_n 0, 1) := by decide +kernel
theorem d_Mp_parameter_27 : decode b_Mp_parameter 27 = .ok (.getfield 18, 3) := by decide +kernel
theorem d_Mp_parameter_30 : decode b_Mp_parameter 30 = .ok (.invokevirtual 187, 3) := by decide +kernel
theorem d_Mp_parameter_33 : decode b_Mp_parameter 33 = .ok (.ifCond .eq 7, 3) := by decide +kernel
theorem d_Mp_parameter_36 : decode b_Mp_parameter 36 = .ok (.iconst 1, 1) := by decide +kernel
theorem d_Mp_parameter_37 : decode b_Mp_parameter 37 = .ok (.goto 4, 3) := by decide +kernel
theorem d_Mp_parameter_40 : decode b_Mp_parameter 40 = .ok (.iconst 0, 1) := by decide +kernel
theorem d_Mp_parameter_41 : decode b_Mp_parameter 41 = .ok (.istore_n 3, 1) := by decide +kernel
theorem d_Mp_parameter_42 : decode b_Mp_parameter 42 = .ok (.aload_n 0, 1) := by decide +kernel
theorem d_Mp_parameter_43 : decode b_Mp_parameter 43 = .ok (.iload_n 3, 1) := by decide +kernel
theorem d_Mp_parameter_44 : decode b_Mp_parameter 44 = .ok (.invokevirtual 183, 3) := by decide +kernel
theorem d_Mp_parameter_47 : decode b_Mp_parameter 47 = .ok (.ireturn, 1) := by decide +kernel
theorem d_Mp_byteAt_0 : decode b_Mp_byteAt 0 = .ok (.aload_n 0, 1) := by decide +kernel
theorem d_Mp_byteAt_1 : decode b_Mp_byteAt 1 = .ok (.getfield 18, 3) := by decide +kernel
theorem d_Mp_byteAt_4 : decode b_Mp_byteAt 4 = .ok (.iload_n 1, 1) := by decide +kernel
theorem d_Mp_byteAt_5 : decode b_Mp_byteAt 5 = .ok (.invokevirtual 102, 3) := by decide +kernel
theorem d_Mp_byteAt_8 : decode b_Mp_byteAt 8 = .ok (.ireturn, 1) := by decide +kernel
theorem d_Mp_text_0 : decode b_Mp_text 0 = .ok (.iload_n 1, 1) := by decide +kernel
theorem d_Mp_text_1 : decode b_Mp_text 1 = .ok (.ifCond .eq 14, 3) := by decide +kernel
theorem d_Mp_text_4 : decode b_Mp_text 4 = .ok (.aload_n 0, 1) := by decide +kernel
theorem d_Mp_text_5 : decode b_Mp_text 5 = .ok (.getfield 83, 3) := by decide +kernel
theorem d_Mp_text_8 : decode b_Mp_text 8 = .ok (.iload_n 2, 1) := by decide +kernel
theorem d_Mp_text_9 : decode b_Mp_text 9 = .ok (.invokevirtual 102, 3) := by decide +kernel
theorem d_Mp_text_12 : decode b_Mp_text 12 = .ok (.goto 11, 3) := by decide +kernel
theorem d_Mp_text_15 : decode b_Mp_text 15 = .ok (.aload_n 0, 1) := by decide +kernel
theorem d_Mp_text_16 : decode b_Mp_text 16 = .ok (.getfield 80, 3) := by decide +kernel
theorem d_Mp_text_19 : decode b_Mp_text 19 = .ok (.iload_n 2, 1) := by decide +kernel
theorem d_Mp_text_20 : decode b_Mp_text 20 = .ok (.invokevirtual 102, 3) := by decide +kernel
theorem d_Mp_text_23 : decode b_Mp_text 23 = .ok (.ireturn, 1) := by decide +kernel
theorem d_Mp_body_0 : decode b_Mp_body 0 = .ok (.aload_n 0, 1) := by decide +kernel
theorem d_Mp_body_1 : decode b_Mp_body 1 = .ok (.iload_n 1, 1) := by decide +kernel
theorem d_Mp_body_2 : decode b_Mp_body 2 = .ok (.invokevirtual 132, 3) := by decide +kernel
theorem d_Mp_body_5 : decode b_Mp_body 5 = .ok (.astore_n 3, 1) := by decide +kernel
theorem d_Mp_body_6 : decode b_Mp_body 6 = .ok (.aload_n 3, 1) := by decide +kernel
theorem d_Mp_body_7 : decode b_Mp_body 7 = .ok (.ifnonnull 5, 3) := by decide +kernel
theorem d_Mp_body_10 : decode b_Mp_body 10 = .ok (.iconst (-1), 1) := by decide +kernel
theorem d_Mp_body_11 : decode b_Mp_body 11 = .ok (.ireturn, 1) := by decide +kernel
theorem d_Mp_body_12 : decode b_Mp_body 12 = .ok (.aload_n 0, 1) := by decide +kernel
theorem d_Mp_body_13 : decode b_Mp_body 13 = .ok (.getfield 24, 3) := by decide +kernel
theorem d_Mp_body_16 : decode b_Mp_body 16 = .ok (.aload_n 3, 1) := by decide +kernel
theorem d_Mp_body_17 : decode b_Mp_body 17 = .ok (.getfield 155, 3) := by decide +kernel
theorem d_Mp_body_20 : decode b_Mp_body 20 = .ok (.aload_n 3, 1) := by decide +kernel
theorem d_Mp_body_21 : decode b_Mp_body 21 = .ok (.getfield 158, 3) := by decide +kernel
theorem d_Mp_body_24 : decode b_Mp_body 24 = .ok (.aload_n 0, 1) := by decide +kernel
theorem d_Mp_body_25 : decode b_Mp_body 25 = .ok (.getfield 31, 3) := by decide +kernel
theorem d_Mp_body_28 : decode b_Mp_body 28 = .ok (.getfield 178, 3) := by decide +kernel
theorem d_Mp_body_31 : decode b_Mp_body 31 = .ok (.invokevirtual 191, 3) := by decide +kernel
theorem d_Mp_body_34 : decode b_Mp_body 34 = .ok (.iload_n 2, 1) := by decide +kernel
theorem d_Mp_body_35 : decode b_Mp_body 35 = .ok (.ifCond .lt 17, 3) := by decide +kernel
theorem d_Mp_body_38 : decode b_Mp_body 38 = .ok (.iload_n 2, 1) := by decide +kernel
theorem d_Mp_body_39 : decode b_Mp_body 39 = .ok (.aload_n 0, 1) := by decide +kernel
theorem d_Mp_body_40 : decode b_Mp_body 40 = .ok (.getfield 31, 3) := by decide +kernel
theorem d_Mp_body_43 : decode b_Mp_body 43 = .ok (.getfield 178, 3) := by decide +kernel
theorem d_Mp_body_46 : decode b_Mp_body 46 = .ok (.getfield 99, 3) := by decide +kernel
theorem d_Mp_body_49 : decode b_Mp_body 49 = .ok (.if_icmp .le 5, 3) := by decide +kernel
theorem d_Mp_body_52 : decode b_Mp_body 52 = .ok (.iconst (-1), 1) := by decide +kernel
theorem d_Mp_body_53 : decode b_Mp_body 53 = .ok (.ireturn, 1) := by decide +kernel
theorem d_Mp_body_54 : decode b_Mp_body 54 = .ok (.aload_n 0, 1) := by decide +kernel
theorem d_Mp_body_55 : decode b_Mp_body 55 = .ok (.getfield 18, 3) := by decide +kernel
theorem d_Mp_body_58 : decode b_Mp_body 58 = .ok (.invokevirtual 93, 3) := by decide +kernel
theorem d_Mp_body_61 : decode b_Mp_body 61 = .ok (.aload_n 0, 1) := by decide +kernel
theorem d_Mp_body_62 : decode b_Mp_body 62 = .ok (.getfield 18, 3) := by decide +kernel
theorem d_Mp_body_65 : decode b_Mp_body 65 = .ok (.aload_n 0, 1) := by decide +kernel
theorem d_Mp_body_66 : decode b_Mp_body 66 = .ok (.getfield 31, 3) := by decide +kernel
theorem d_Mp_body_69 : decode b_Mp_body 69 = .ok (.getfield 178, 3) := by decide +kernel
theorem d_Mp_body_72 : decode b_Mp_body 72 = .ok (.iload_n 2, 1) := by decide +kernel
theorem d_Mp_body_73 : decode b_Mp_body 73 = .ok (.aload_n 0, 1) := by decide +kernel
theorem d_Mp_body_74 : decode b_Mp_body 74 = .ok (.getfield 31, 3) := by decide +kernel
theorem d_Mp_body_77 : decode b_Mp_body 77 = .ok (.getfield 178, 3) := by decide +kernel
theorem d_Mp_body_80 : decode b_Mp_body 80 = .ok (.getfield 99, 3) := by decide +kernel
theorem d_Mp_body_83 : decode b_Mp_body 83 = .ok (.invokevirtual 195, 3) := by decide +kernel
theorem d_Mp_body_86 : decode b_Mp_body 86 = .ok (.aload_n 0, 1) := by decide +kernel
theorem d_Mp_body_87 : decode b_Mp_body 87 = .ok (.getfield 18, 3) := by decide +kernel
theorem d_Mp_body_90 : decode b_Mp_body 90 = .ok (.getfield 99, 3) := by decide +kernel
theorem d_Mp_body_93 : decode b_Mp_body 93 = .ok (.ireturn, 1) := by decide +kernel
theorem d_Mp_count_0 : decode b_Mp_count 0 = .ok (.iload_n 1, 1) := by decide +kernel
theorem d_Mp_count_1 : decode b_Mp_count 1 = .ok (.tableswitch 69 0 4 #[35, 40, 48, 56, 61], 35) := by decide +kernel
theorem d_Mp_count_36 : decode b_Mp_count 36 = .ok (.aload_n 0, 1) := by decide +kernel
theorem d_Mp_count_37 : decode b_Mp_count 37 = .ok (.getfield 86, 3) := by decide +kernel
theorem d_Mp_count_40 : decode b_Mp_count 40 = .ok (.ireturn, 1) := by decide +kernel
theorem d_Mp_count_41 : decode b_Mp_count 41 = .ok (.aload_n 0, 1) := by decide +kernel
theorem d_Mp_count_42 : decode b_Mp_count 42 = .ok (.getfield 80, 3) := by decide +kernel
theorem d_Mp_count_45 : decode b_Mp_count 45 = .ok (.getfield 99, 3) := by decide +kernel
theorem d_Mp_count_48 : decode b_Mp_count 48 = .ok (.ireturn, 1) := by decide +kernel
theorem d_Mp_count_49 : decode b_Mp_count 49 = .ok (.aload_n 0, 1) := by decide +kernel
theorem d_Mp_count_50 : decode b_Mp_count 50 = .ok (.getfield 83, 3) := by decide +kernel
theorem d_Mp_count_53 : decode b_Mp_count 53 = .ok (.getfield 99, 3) := by decide +kernel
theorem d_Mp_count_56 : decode b_Mp_count 56 = .ok (.ireturn, 1) := by decide +kernel
theorem d_Mp_count_57 : decode b_Mp_count 57 = .ok (.aload_n 0, 1) := by decide +kernel
theorem d_Mp_count_58 : decode b_Mp_count 58 = .ok (.getfield 90, 3) := by decide +kernel
theorem d_Mp_count_61 : decode b_Mp_count 61 = .ok (.ireturn, 1) := by decide +kernel
theorem d_Mp_count_62 : decode b_Mp_count 62 = .ok (.aload_n 0, 1) := by decide +kernel
theorem d_Mp_count_63 : decode b_Mp_count 63 = .ok (.getfield 24, 3) := by decide +kernel
theorem d_Mp_count_66 : decode b_Mp_count 66 = .ok (.getfield 119, 3) := by decide +kernel
theorem d_Mp_count_69 : decode b_Mp_count 69 = .ok (.ireturn, 1) := by decide +kernel
theorem d_Mp_count_70 : decode b_Mp_count 70 = .ok (.iconst (-1), 1) := by decide +kernel
theorem d_Mp_count_71 : decode b_Mp_count 71 = .ok (.ireturn, 1) := by decide +kernel
theorem d_Mp_addWord_0 : decode b_Mp_addWord 0 = .ok (.aload_n 0, 1) := by decide +kernel
theorem d_Mp_addWord_1 : decode b_Mp_addWord 1 = .ok (.getfield 14, 3) := by decide +kernel
theorem d_Mp_addWord_4 : decode b_Mp_addWord 4 = .ok (.iload_n 1, 1) := by decide +kernel
theorem d_Mp_addWord_5 : decode b_Mp_addWord 5 = .ok (.bipush 24, 2) := by decide +kernel
theorem d_Mp_addWord_7 : decode b_Mp_addWord 7 = .ok (.iushr, 1) := by decide +kernel
theorem d_Mp_addWord_8 : decode b_Mp_addWord 8 = .ok (.sipush 255, 3) := by decide +kernel
theorem d_Mp_addWord_11 : decode b_Mp_addWord 11 = .ok (.iand, 1) := by decide +kernel
theorem d_Mp_addWord_12 : decode b_Mp_addWord 12 = .ok (.invokevirtual 112, 3) := by decide +kernel
theorem d_Mp_addWord_15 : decode b_Mp_addWord 15 = .ok (.aload_n 0, 1) := by decide +kernel
theorem d_Mp_addWord_16 : decode b_Mp_addWord 16 = .ok (.getfield 14, 3) := by decide +kernel
theorem d_Mp_addWord_19 : decode b_Mp_addWord 19 = .ok (.iload_n 1, 1) := by decide +kernel
theorem d_Mp_addWord_20 : decode b_Mp_addWord 20 = .ok (.bipush 16, 2) := by decide +kernel
theorem d_Mp_addWord_22 : decode b_Mp_addWord 22 = .ok (.iushr, 1) := by decide +kernel
theorem d_Mp_addWord_23 : decode b_Mp_addWord 23 = .ok (.sipush 255, 3) := by decide +kernel
theorem d_Mp_addWord_26 : decode b_Mp_addWord 26 = .ok (.iand, 1) := by decide +kernel
theorem d_Mp_addWord_27 : decode b_Mp_addWord 27 = .ok (.invokevirtual 112, 3) := by decide +kernel
theorem d_Mp_addWord_30 : decode b_Mp_addWord 30 = .ok (.aload_n 0, 1) := by decide +kernel
theorem d_Mp_addWord_31 : decode b_Mp_addWord 31 = .ok (.getfield 14, 3) := by decide +kernel
theorem d_Mp_addWord_34 : decode b_Mp_addWord 34 = .ok (.iload_n 1, 1) := by decide +kernel
theorem d_Mp_addWord_35 : decode b_Mp_addWord 35 = .ok (.bipush 8, 2) := by decide +kernel
theorem d_Mp_addWord_37 : decode b_Mp_addWord 37 = .ok (.iushr, 1) := by decide +kernel
theorem d_Mp_addWord_38 : decode b_Mp_addWord 38 = .ok (.sipush 255, 3) := by decide +kernel
theorem d_Mp_addWord_41 : decode b_Mp_addWord 41 = .ok (.iand, 1) := by decide +kernel
theorem d_Mp_addWord_42 : decode b_Mp_addWord 42 = .ok (.invokevirtual 112, 3) := by decide +kernel
theorem d_Mp_addWord_45 : decode b_Mp_addWord 45 = .ok (.aload_n 0, 1) := by decide +kernel
theorem d_Mp_addWord_46 : decode b_Mp_addWord 46 = .ok (.getfield 14, 3) := by decide +kernel
theorem d_Mp_addWord_49 : decode b_Mp_addWord 49 = .ok (.iload_n 1, 1) := by decide +kernel
theorem d_Mp_addWord_50 : decode b_Mp_addWord 50 = .ok (.sipush 255, 3) := by decide +kernel
theorem d_Mp_addWord_53 : decode b_Mp_addWord 53 = .ok (.iand, 1) := by decide +kernel
theorem d_Mp_addWord_54 : decode b_Mp_addWord 54 = .ok (.invokevirtual 112, 3) := by decide +kernel
theorem d_Mp_addWord_57 : decode b_Mp_addWord 57 = .ok (.return_, 1) := by decide +kernel
theorem d_Mp_find_0 : decode b_Mp_find 0 = .ok (.iload_n 1, 1) := by decide +kernel
theorem d_Mp_find_1 : decode b_Mp_find 1 = .ok (.ifCond .lt 29, 3) := by decide +kernel
theorem d_Mp_find_4 : decode b_Mp_find 4 = .ok (.iload_n 1, 1) := by decide +kernel
theorem d_Mp_find_5 : decode b_Mp_find 5 = .ok (.aload_n 0, 1) := by decide +kernel
theorem d_Mp_find_6 : decode b_Mp_find 6 = .ok (.getfield 86, 3) := by decide +kernel
theorem d_Mp_find_9 : decode b_Mp_find 9 = .ok (.if_icmp .ge 21, 3) := by decide +kernel
theorem d_Mp_find_12 : decode b_Mp_find 12 = .ok (.iload_n 1, 1) := by decide +kernel
theorem d_Mp_find_13 : decode b_Mp_find 13 = .ok (.aload_n 0, 1) := by decide +kernel
theorem d_Mp_find_14 : decode b_Mp_find 14 = .ok (.getfield 71, 3) := by decide +kernel
theorem d_Mp_find_17 : decode b_Mp_find 17 = .ok (.arraylength, 1) := by decide +kernel
theorem d_Mp_find_18 : decode b_Mp_find 18 = .ok (.if_icmp .ge 12, 3) := by decide +kernel
theorem d_Mp_find_21 : decode b_Mp_find 21 = .ok (.aload_n 0, 1) := by decide +kernel
theorem d_Mp_find_22 : decode b_Mp_find 22 = .ok (.getfield 71, 3) := by decide +kernel
theorem d_Mp_find_25 : decode b_Mp_find 25 = .ok (.iload_n 1, 1) := by decide +kernel
theorem d_Mp_find_26 : decode b_Mp_find 26 = .ok (.aaload, 1) := by decide +kernel
theorem d_Mp_find_27 : decode b_Mp_find 27 = .ok (.goto 4, 3) := by decide +kernel
theorem d_Mp_find_30 : decode b_Mp_find 30 = .ok (.aconst_null, 1) := by decide +kernel
theorem d_Mp_find_31 : decode b_Mp_find 31 = .ok (.areturn, 1) := by decide +kernel
theorem d_Mp_answerOnTape_0 : decode b_Mp_answerOnTape 0 = .ok (.aload_n 0, 1) := by decide +kernel
theorem d_Mp_answerOnTape_1 : decode b_Mp_answerOnTape 1 = .ok (.getfield 18, 3) := by decide +kernel
theorem d_Mp_answerOnTape_4 : decode b_Mp_answerOnTape 4 = .ok (.invokevirtual 93, 3) := by decide +kernel
theorem d_Mp_answerOnTape_7 : decode b_Mp_answerOnTape 7 = .ok (.iload_n 1, 1) := by decide +kernel
theorem d_Mp_answerOnTape_8 : decode b_Mp_answerOnTape 8 = .ok (.ifCond .ne 5, 3) := by decide +kernel
theorem d_Mp_answerOnTape_11 : decode b_Mp_answerOnTape 11 = .ok (.iconst (-1), 1) := by decide +kernel
theorem d_Mp_answerOnTape_12 : decode b_Mp_answerOnTape 12 = .ok (.ireturn, 1) := by decide +kernel
theorem d_Mp_answerOnTape_13 : decode b_Mp_answerOnTape 13 = .ok (.aload_n 0, 1) := by decide +kernel
theorem d_Mp_answerOnTape_14 : decode b_Mp_answerOnTape 14 = .ok (.getfield 18, 3) := by decide +kernel
theorem d_Mp_answerOnTape_17 : decode b_Mp_answerOnTape 17 = .ok (.aload_n 0, 1) := by decide +kernel
theorem d_Mp_answerOnTape_18 : decode b_Mp_answerOnTape 18 = .ok (.getfield 31, 3) := by decide +kernel
theorem d_Mp_answerOnTape_21 : decode b_Mp_answerOnTape 21 = .ok (.getfield 178, 3) := by decide +kernel
theorem d_Mp_answerOnTape_24 : decode b_Mp_answerOnTape 24 = .ok (.iconst 0, 1) := by decide +kernel
theorem d_Mp_answerOnTape_25 : decode b_Mp_answerOnTape 25 = .ok (.aload_n 0, 1) := by decide +kernel
theorem d_Mp_answerOnTape_26 : decode b_Mp_answerOnTape 26 = .ok (.getfield 31, 3) := by decide +kernel
theorem d_Mp_answerOnTape_29 : decode b_Mp_answerOnTape 29 = .ok (.getfield 178, 3) := by decide +kernel
theorem d_Mp_answerOnTape_32 : decode b_Mp_answerOnTape 32 = .ok (.getfield 99, 3) := by decide +kernel
theorem d_Mp_answerOnTape_35 : decode b_Mp_answerOnTape 35 = .ok (.invokevirtual 195, 3) := by decide +kernel
theorem d_Mp_answerOnTape_38 : decode b_Mp_answerOnTape 38 = .ok (.aload_n 0, 1) := by decide +kernel
theorem d_Mp_answerOnTape_39 : decode b_Mp_answerOnTape 39 = .ok (.getfield 18, 3) := by decide +kernel
theorem d_Mp_answerOnTape_42 : decode b_Mp_answerOnTape 42 = .ok (.getfield 99, 3) := by decide +kernel
theorem d_Mp_answerOnTape_45 : decode b_Mp_answerOnTape 45 = .ok (.ireturn, 1) := by decide +kernel
theorem d_Mp_countFields_0 : decode b_Mp_countFields 0 = .ok (.aload_n 1, 1) := by decide +kernel
theorem d_Mp_countFields_1 : decode b_Mp_countFields 1 = .ok (.getfield 199, 3) := by decide +kernel
theorem d_Mp_countFields_4 : decode b_Mp_countFields 4 = .ok (.iconst (-1), 1) := by decide +kernel
theorem d_Mp_countFields_5 : decode b_Mp_countFields 5 = .ok (.if_icmp .eq 8, 3) := by decide +kernel
theorem d_Mp_countFields_8 : decode b_Mp_countFields 8 = .ok (.aload_n 1, 1) := by decide +kernel
theorem d_Mp_countFields_9 : decode b_Mp_countFields 9 = .ok (.getfield 199, 3) := by decide +kernel
theorem d_Mp_countFields_12 : decode b_Mp_countFields 12 = .ok (.ireturn, 1) := by decide +kernel
theorem d_Mp_countFields_13 : decode b_Mp_countFields 13 = .ok (.iconst 0, 1) := by decide +kernel
theorem d_Mp_countFields_14 : decode b_Mp_countFields 14 = .ok (.istore_n 2, 1) := by decide +kernel
theorem d_Mp_countFields_15 : decode b_Mp_countFields 15 = .ok (.aload_n 1, 1) := by decide +kernel
theorem d_Mp_countFields_16 : decode b_Mp_countFields 16 = .ok (.getfield 149, 3) := by decide +kernel
theorem d_Mp_countFields_19 : decode b_Mp_countFields 19 = .ok (.istore_n 3, 1) := by decide +kernel
theorem d_Mp_countFields_20 : decode b_Mp_countFields 20 = .ok (.iload_n 3, 1) := by decide +kernel
theorem d_Mp_countFields_21 : decode b_Mp_countFields 21 = .ok (.aload_n 1, 1) := by decide +kernel
theorem d_Mp_countFields_22 : decode b_Mp_countFields 22 = .ok (.getfield 164, 3) := by decide +kernel
theorem d_Mp_countFields_25 : decode b_Mp_countFields 25 = .ok (.if_icmp .ge 96, 3) := by decide +kernel
theorem d_Mp_countFields_28 : decode b_Mp_countFields 28 = .ok (.aload_n 0, 1) := by decide +kernel
theorem d_Mp_countFields_29 : decode b_Mp_countFields 29 = .ok (.getfield 24, 3) := by decide +kernel
theorem d_Mp_countFields_32 : decode b_Mp_countFields 32 = .ok (.iload_n 3, 1) := by decide +kernel
theorem d_Mp_countFields_33 : decode b_Mp_countFields 33 = .ok (.invokevirtual 202, 3) := by decide +kernel
theorem d_Mp_countFields_36 : decode b_Mp_countFields 36 = .ok (.istore 4, 2) := by decide +kernel
theorem d_Mp_countFields_38 : decode b_Mp_countFields 38 = .ok (.iload 4, 2) := by decide +kernel
theorem d_Mp_countFields_40 : decode b_Mp_countFields 40 = .ok (.iconst (-1), 1) := by decide +kernel
theorem d_Mp_countFields_41 : decode b_Mp_countFields 41 = .ok (.if_icmp .eq 74, 3) := by decide +kernel
theorem d_Mp_countFields_44 : decode b_Mp_countFields 44 = .ok (.aload_n 0, 1) := by decide +kernel
theorem d_Mp_countFields_45 : decode b_Mp_countFields 45 = .ok (.getfield 31, 3) := by decide +kernel
theorem d_Mp_countFields_48 : decode b_Mp_countFields 48 = .ok (.getfield 178, 3) := by decide +kernel
theorem d_Mp_countFields_51 : decode b_Mp_countFields 51 = .ok (.invokevirtual 93, 3) := by decide +kernel
theorem d_Mp_countFields_54 : decode b_Mp_countFields 54 = .ok (.aload_n 0, 1) := by decide +kernel
theorem d_Mp_countFields_55 : decode b_Mp_countFields 55 = .ok (.getfield 31, 3) := by decide +kernel
theorem d_Mp_countFields_58 : decode b_Mp_countFields 58 = .ok (.getfield 178, 3) := by decide +kernel
theorem d_Mp_countFields_61 : decode b_Mp_countFields 61 = .ok (.aload_n 0, 1) := by decide +kernel
theorem d_Mp_countFields_62 : decode b_Mp_countFields 62 = .ok (.getfield 24, 3) := by decide +kernel
theorem d_Mp_countFields_65 : decode b_Mp_countFields 65 = .ok (.getfield 161, 3) := by decide +kernel
theorem d_Mp_countFields_68 : decode b_Mp_countFields 68 = .ok (.aload_n 0, 1) := by decide +kernel
theorem d_Mp_countFields_69 : decode b_Mp_countFields 69 = .ok (.getfield 24, 3) := by decide +kernel
theorem d_Mp_countFields_72 : decode b_Mp_countFields 72 = .ok (.iload_n 3, 1) := by decide +kernel
theorem d_Mp_countFields_73 : decode b_Mp_countFields 73 = .ok (.invokevirtual 152, 3) := by decide +kernel
theorem d_Mp_countFields_76 : decode b_Mp_countFields 76 = .ok (.iload 4, 2) := by decide +kernel
theorem d_Mp_countFields_78 : decode b_Mp_countFields 78 = .ok (.invokevirtual 195, 3) := by decide +kernel
theorem d_Mp_countFields_81 : decode b_Mp_countFields 81 = .ok (.iload_n 2, 1) := by decide +kernel
theorem d_Mp_countFields_82 : decode b_Mp_countFields 82 = .ok (.aload_n 0, 1) := by decide +kernel
theorem d_Mp_countFields_83 : decode b_Mp_countFields 83 = .ok (.getfield 24, 3) := by decide +kernel
theorem d_Mp_countFields_86 : decode b_Mp_countFields 86 = .ok (.aload_n 1, 1) := by decide +kernel
theorem d_Mp_countFields_87 : decode b_Mp_countFields 87 = .ok (.getfield 149, 3) := by decide +kernel
theorem d_Mp_countFields_90 : decode b_Mp_countFields 90 = .ok (.aload_n 1, 1) := by decide +kernel
theorem d_Mp_countFields_91 : decode b_Mp_countFields 91 = .ok (.getfield 164, 3) := by decide +kernel
theorem d_Mp_countFields_94 : decode b_Mp_countFields 94 = .ok (.aload_n 0, 1) := by decide +kernel
theorem d_Mp_countFields_95 : decode b_Mp_countFields 95 = .ok (.getfield 31, 3) := by decide +kernel
theorem d_Mp_countFields_98 : decode b_Mp_countFields 98 = .ok (.getfield 178, 3) := by decide +kernel
theorem d_Mp_countFields_101 : decode b_Mp_countFields 101 = .ok (.invokevirtual 205, 3) := by decide +kernel
theorem d_Mp_countFields_104 : decode b_Mp_countFields 104 = .ok (.iload_n 3, 1) := by decide +kernel
theorem d_Mp_countFields_105 : decode b_Mp_countFields 105 = .ok (.if_icmp .ne 7, 3) := by decide +kernel
theorem d_Mp_countFields_108 : decode b_Mp_countFields 108 = .ok (.iconst 1, 1) := by decide +kernel
theorem d_Mp_countFields_109 : decode b_Mp_countFields 109 = .ok (.goto 4, 3) := by decide +kernel
theorem d_Mp_countFields_112 : decode b_Mp_countFields 112 = .ok (.iconst 0, 1) := by decide +kernel
theorem d_Mp_countFields_113 : decode b_Mp_countFields 113 = .ok (.iadd, 1) := by decide +kernel
theorem d_Mp_countFields_114 : decode b_Mp_countFields 114 = .ok (.istore_n 2, 1) := by decide +kernel
theorem d_Mp_countFields_115 : decode b_Mp_countFields 115 = .ok (.iinc 3 1, 3) := by decide +kernel
theorem d_Mp_countFields_118 : decode b_Mp_countFields 118 = .ok (.goto (-98), 3) := by decide +kernel
theorem d_Mp_countFields_121 : decode b_Mp_countFields 121 = .ok (.aload_n 1, 1) := by decide +kernel
theorem d_Mp_countFields_122 : decode b_Mp_countFields 122 = .ok (.iload_n 2, 1) := by decide +kernel
theorem d_Mp_countFields_123 : decode b_Mp_countFields 123 = .ok (.putfield 199, 3) := by decide +kernel
theorem d_Mp_countFields_126 : decode b_Mp_countFields 126 = .ok (.iload_n 2, 1) := by decide +kernel
theorem d_Mp_countFields_127 : decode b_Mp_countFields 127 = .ok (.ireturn, 1) := by decide +kernel
theorem d_Mp_openEntity_0 : decode b_Mp_openEntity 0 = .ok (.aload_n 0, 1) := by decide +kernel
theorem d_Mp_openEntity_1 : decode b_Mp_openEntity 1 = .ok (.getfield 86, 3) := by decide +kernel
theorem d_Mp_openEntity_4 : decode b_Mp_openEntity 4 = .ok (.aload_n 0, 1) := by decide +kernel
theorem d_Mp_openEntity_5 : decode b_Mp_openEntity 5 = .ok (.getfield 71, 3) := by decide +kernel
theorem d_Mp_openEntity_8 : decode b_Mp_openEntity 8 = .ok (.arraylength, 1) := by decide +kernel
theorem d_Mp_openEntity_9 : decode b_Mp_openEntity 9 = .ok (.if_icmp .ge 10, 3) := by decide +kernel
theorem d_Mp_openEntity_12 : decode b_Mp_openEntity 12 = .ok (.iload 4, 2) := by decide +kernel
theorem d_Mp_openEntity_14 : decode b_Mp_openEntity 14 = .ok (.bipush 8, 2) := by decide +kernel
theorem d_Mp_openEntity_16 : decode b_Mp_openEntity 16 = .ok (.if_icmp .le 14, 3) := by decide +kernel
theorem d_Mp_openEntity_19 : decode b_Mp_openEntity 19 = .ok (.aload_n 0, 1) := by decide +kernel
theorem d_Mp_openEntity_20 : decode b_Mp_openEntity 20 = .ok (.dup, 1) := by decide +kernel
theorem d_Mp_openEntity_21 : decode b_Mp_openEntity 21 = .ok (.getfield 90, 3) := by decide +kernel
theorem d_Mp_openEntity_24 : decode b_Mp_openEntity 24 = .ok (.iconst 1, 1) := by decide +kernel
theorem d_Mp_openEntity_25 : decode b_Mp_openEntity 25 = .ok (.iadd, 1) := by decide +kernel
theorem d_Mp_openEntity_26 : decode b_Mp_openEntity 26 = .ok (.putfield 90, 3) := by decide +kernel
theorem d_Mp_openEntity_29 : decode b_Mp_openEntity 29 = .ok (.return_, 1) := by decide +kernel
theorem d_Mp_openEntity_30 : decode b_Mp_openEntity 30 = .ok (.aload_n 0, 1) := by decide +kernel
theorem d_Mp_openEntity_31 : decode b_Mp_openEntity 31 = .ok (.getfield 86, 3) := by decide +kernel
theorem d_Mp_openEntity_34 : decode b_Mp_openEntity 34 = .ok (.istore 5, 2) := by decide +kernel
theorem d_Mp_openEntity_36 : decode b_Mp_openEntity 36 = .ok (.aload_n 0, 1) := by decide +kernel
theorem d_Mp_openEntity_37 : decode b_Mp_openEntity 37 = .ok (.dup, 1) := by decide +kernel
theorem d_Mp_openEntity_38 : decode b_Mp_openEntity 38 = .ok (.getfield 86, 3) := by decide +kernel
theorem d_Mp_openEntity_41 : decode b_Mp_openEntity 41 = .ok (.iconst 1, 1) := by decide +kernel
theorem d_Mp_openEntity_42 : decode b_Mp_openEntity 42 = .ok (.iadd, 1) := by decide +kernel
theorem d_Mp_openEntity_43 : decode b_Mp_openEntity 43 = .ok (.putfield 86, 3) := by decide +kernel
theorem d_Mp_openEntity_46 : decode b_Mp_openEntity 46 = .ok (.aload_n 0, 1) := by decide +kernel
theorem d_Mp_openEntity_47 : decode b_Mp_openEntity 47 = .ok (.getfield 71, 3) := by decide +kernel
theorem d_Mp_openEntity_50 : decode b_Mp_openEntity 50 = .ok (.iload 5, 2) := by decide +kernel
theorem d_Mp_openEntity_52 : decode b_Mp_openEntity 52 = .ok (.aaload, 1) := by decide +kernel
theorem d_Mp_openEntity_53 : decode b_Mp_openEntity 53 = .ok (.astore 6, 2) := by decide +kernel
theorem d_Mp_openEntity_55 : decode b_Mp_openEntity 55 = .ok (.aload 6, 2) := by decide +kernel
theorem d_Mp_openEntity_57 : decode b_Mp_openEntity 57 = .ok (.iload_n 3, 1) := by decide +kernel
theorem d_Mp_openEntity_58 : decode b_Mp_openEntity 58 = .ok (.putfield 139, 3) := by decide +kernel
theorem d_Mp_openEntity_61 : decode b_Mp_openEntity 61 = .ok (.aload 6, 2) := by decide +kernel
theorem d_Mp_openEntity_63 : decode b_Mp_openEntity 63 = .ok (.iload 4, 2) := by decide +kernel
theorem d_Mp_openEntity_65 : decode b_Mp_openEntity 65 = .ok (.putfield 142, 3) := by decide +kernel
theorem d_Mp_openEntity_68 : decode b_Mp_openEntity 68 = .ok (.aload 6, 2) := by decide +kernel
theorem d_Mp_openEntity_70 : decode b_Mp_openEntity 70 = .ok (.iload_n 1, 1) := by decide +kernel
theorem d_Mp_openEntity_71 : decode b_Mp_openEntity 71 = .ok (.putfield 149, 3) := by decide +kernel
theorem d_Mp_openEntity_74 : decode b_Mp_openEntity 74 = .ok (.aload 6, 2) := by decide +kernel
theorem d_Mp_openEntity_76 : decode b_Mp_openEntity 76 = .ok (.iload_n 2, 1) := by decide +kernel
theorem d_Mp_openEntity_77 : decode b_Mp_openEntity 77 = .ok (.putfield 158, 3) := by decide +kernel
theorem d_Mp_openEntity_80 : decode b_Mp_openEntity 80 = .ok (.aload 6, 2) := by decide +kernel
theorem d_Mp_openEntity_82 : decode b_Mp_openEntity 82 = .ok (.iconst 0, 1) := by decide +kernel
theorem d_Mp_openEntity_83 : decode b_Mp_openEntity 83 = .ok (.putfield 167, 3) := by decide +kernel
theorem d_Mp_openEntity_86 : decode b_Mp_openEntity 86 = .ok (.aload 6, 2) := by decide +kernel
theorem d_Mp_openEntity_88 : decode b_Mp_openEntity 88 = .ok (.iconst (-1), 1) := by decide +kernel
theorem d_Mp_openEntity_89 : decode b_Mp_openEntity 89 = .ok (.putfield 199, 3) := by decide +kernel
theorem d_Mp_openEntity_92 : decode b_Mp_openEntity 92 = .ok (.aload 6, 2) := by decide +kernel
theorem d_Mp_openEntity_94 : decode b_Mp_openEntity 94 = .ok (.aload_n 0, 1) := by decide +kernel
theorem d_Mp_openEntity_95 : decode b_Mp_openEntity 95 = .ok (.getfield 24, 3) := by decide +kernel
theorem d_Mp_openEntity_98 : decode b_Mp_openEntity 98 = .ok (.iload_n 1, 1) := by decide +kernel
theorem d_Mp_openEntity_99 : decode b_Mp_openEntity 99 = .ok (.iload_n 2, 1) := by decide +kernel
theorem d_Mp_openEntity_100 : decode b_Mp_openEntity 100 = .ok (.invokevirtual 209, 3) := by decide +kernel
theorem d_Mp_openEntity_103 : decode b_Mp_openEntity 103 = .ok (.putfield 164, 3) := by decide +kernel
theorem d_Mp_openEntity_106 : decode b_Mp_openEntity 106 = .ok (.aload 6, 2) := by decide +kernel
theorem d_Mp_openEntity_108 : decode b_Mp_openEntity 108 = .ok (.aload 6, 2) := by decide +kernel
theorem d_Mp_openEntity_110 : decode b_Mp_openEntity 110 = .ok (.getfield 164, 3) := by decide +kernel
theorem d_Mp_openEntity_113 : decode b_Mp_openEntity 113 = .ok (.iload_n 2, 1) := by decide +kernel
theorem d_Mp_openEntity_114 : decode b_Mp_openEntity 114 = .ok (.if_icmp .ge 28, 3) := by decide +kernel
theorem d_Mp_openEntity_117 : decode b_Mp_openEntity 117 = .ok (.aload_n 0, 1) := by decide +kernel
theorem d_Mp_openEntity_118 : decode b_Mp_openEntity 118 = .ok (.getfield 24, 3) := by decide +kernel
theorem d_Mp_openEntity_121 : decode b_Mp_openEntity 121 = .ok (.aload 6, 2) := by decide +kernel
theorem d_Mp_openEntity_123 : decode b_Mp_openEntity 123 = .ok (.getfield 164, 3) := by decide +kernel
theorem d_Mp_openEntity_126 : decode b_Mp_openEntity 126 = .ok (.invokevirtual 212, 3) := by decide +kernel
theorem d_Mp_openEntity_129 : decode b_Mp_openEntity 129 = .ok (.ifCond .eq 13, 3) := by decide +kernel
theorem d_Mp_openEntity_132 : decode b_Mp_openEntity 132 = .ok (.aload 6, 2) := by decide +kernel
theorem d_Mp_openEntity_134 : decode b_Mp_openEntity 134 = .ok (.getfield 164, 3) := by decide +kernel
theorem d_Mp_openEntity_137 : decode b_Mp_openEntity 137 = .ok (.iconst 1, 1) := by decide +kernel
theorem d_Mp_openEntity_138 : decode b_Mp_openEntity 138 = .ok (.iadd, 1) := by decide +kernel
theorem d_Mp_openEntity_139 : decode b_Mp_openEntity 139 = .ok (.goto 8, 3) := by decide +kernel
theorem d_Mp_openEntity_142 : decode b_Mp_openEntity 142 = .ok (.aload 6, 2) := by decide +kernel
theorem d_Mp_openEntity_144 : decode b_Mp_openEntity 144 = .ok (.getfield 164, 3) := by decide +kernel
theorem d_Mp_openEntity_147 : decode b_Mp_openEntity 147 = .ok (.putfield 155, 3) := by decide +kernel
theorem d_Mp_openEntity_150 : decode b_Mp_openEntity 150 = .ok (.aload_n 0, 1) := by decide +kernel
theorem d_Mp_openEntity_151 : decode b_Mp_openEntity 151 = .ok (.iload_n 3, 1) := by decide +kernel
theorem d_Mp_openEntity_152 : decode b_Mp_openEntity 152 = .ok (.invokevirtual 132, 3) := by decide +kernel
theorem d_Mp_openEntity_155 : decode b_Mp_openEntity 155 = .ok (.astore 7, 2) := by decide +kernel
theorem d_Mp_openEntity_157 : decode b_Mp_openEntity 157 = .ok (.aload 7, 2) := by decide +kernel
theorem d_Mp_openEntity_159 : decode b_Mp_openEntity 159 = .ok (.ifnull 14, 3) := by decide +kernel
theorem d_Mp_openEntity_162 : decode b_Mp_openEntity 162 = .ok (.aload 7, 2) := by decide +kernel
theorem d_Mp_openEntity_164 : decode b_Mp_openEntity 164 = .ok (.dup, 1) := by decide +kernel
theorem d_Mp_openEntity_165 : decode b_Mp_openEntity 165 = .ok (.getfield 167, 3) := by decide +kernel
theorem d_Mp_openEntity_168 : decode b_Mp_openEntity 168 = .ok (.iconst 1, 1) := by decide +kernel
theorem d_Mp_openEntity_169 : decode b_Mp_openEntity 169 = .ok (.iadd, 1) := by decide +kernel
theorem d_Mp_openEntity_170 : decode b_Mp_openEntity 170 = .ok (.putfield 167, 3) := by decide +kernel
theorem d_Mp_openEntity_173 : decode b_Mp_openEntity 173 = .ok (.aload_n 0, 1) := by decide +kernel
theorem d_Mp_openEntity_174 : decode b_Mp_openEntity 174 = .ok (.aload 6, 2) := by decide +kernel
theorem d_Mp_openEntity_176 : decode b_Mp_openEntity 176 = .ok (.invokevirtual 216, 3) := by decide +kernel
theorem d_Mp_openEntity_179 : decode b_Mp_openEntity 179 = .ok (.aload 6, 2) := by decide +kernel
theorem d_Mp_openEntity_181 : decode b_Mp_openEntity 181 = .ok (.getfield 136, 3) := by decide +kernel
theorem d_Mp_openEntity_184 : decode b_Mp_openEntity 184 = .ok (.iconst 1, 1) := by decide +kernel
theorem d_Mp_openEntity_185 : decode b_Mp_openEntity 185 = .ok (.if_icmp .ne 16, 3) := by decide +kernel
theorem d_Mp_openEntity_188 : decode b_Mp_openEntity 188 = .ok (.aload_n 0, 1) := by decide +kernel
theorem d_Mp_openEntity_189 : decode b_Mp_openEntity 189 = .ok (.aload 6, 2) := by decide +kernel
theorem d_Mp_openEntity_191 : decode b_Mp_openEntity 191 = .ok (.iload 5, 2) := by decide +kernel
theorem d_Mp_openEntity_193 : decode b_Mp_openEntity 193 = .ok (.iload 4, 2) := by decide +kernel
theorem d_Mp_openEntity_195 : decode b_Mp_openEntity 195 = .ok (.invokevirtual 220, 3) := by decide +kernel
theorem d_Mp_openEntity_198 : decode b_Mp_openEntity 198 = .ok (.goto 28, 3) := by decide +kernel
theorem d_Mp_openEntity_201 : decode b_Mp_openEntity 201 = .ok (.aload 6, 2) := by decide +kernel
theorem d_Mp_openEntity_203 : decode b_Mp_openEntity 203 = .ok (.getfield 136, 3) := by decide +kernel
theorem d_Mp_openEntity_206 : decode b_Mp_openEntity 206 = .ok (.iconst 2, 1) := by decide +kernel
theorem d_Mp_openEntity_207 : decode b_Mp_openEntity 207 = .ok (.if_icmp .ne 19, 3) := by decide +kernel
theorem d_Mp_openEntity_210 : decode b_Mp_openEntity 210 = .ok (.aload_n 0, 1) := by decide +kernel
theorem d_Mp_openEntity_211 : decode b_Mp_openEntity 211 = .ok (.aload 6, 2) := by decide +kernel
theorem d_Mp_openEntity_213 : decode b_Mp_openEntity 213 = .ok (.getfield 155, 3) := by decide +kernel
theorem d_Mp_openEntity_216 : decode b_Mp_openEntity 216 = .ok (.iload_n 2, 1) := by decide +kernel
theorem d_Mp_openEntity_217 : decode b_Mp_openEntity 217 = .ok (.iload 5, 2) := by decide +kernel
theorem d_Mp_openEntity_219 : decode b_Mp_openEntity 219 = .ok (.iload 4, 2) := by decide +kernel
theorem d_Mp_openEntity_221 : decode b_Mp_openEntity 221 = .ok (.iconst 1, 1) := by decide +kernel
theorem d_Mp_openEntity_222 : decode b_Mp_openEntity 222 = .ok (.iadd, 1) := by decide +kernel
theorem d_Mp_openEntity_223 : decode b_Mp_openEntity 223 = .ok (.invokevirtual 122, 3) := by decide +kernel
theorem d_Mp_openEntity_226 : decode b_Mp_openEntity 226 = .ok (.return_, 1) := by decide +kernel
end
section
/-! LAYER 0. The heap as a map: an address to an object (its class's place, its fields) or an array (its type's place, its length, its contents). Rows of the kit over it. -/
abbrev xE : Type := (Nat × vp_A) ⊕ (Nat × List Value)
abbrev xhp : Type := Nat → Option xE
/-- classes' numbers and slots, array classes by the places of xTY, the literals' addresses -/
abbrev xG : Type := va_G × (Nat → ClassId) × (Nat → Nat) × (Nat → Nat)
def xtr (kk : Nat → ClassId) : xE → va_E
  | .inl (t, x) => .inl (kk t, x)
  | .inr o => .inr o
def xg (kk : Nat → ClassId) (f : xhp) : Nat → va_E := fun a => match f a with
  | some e => xtr kk e
  | none => .inr (0, [])
def xHP (G : xG) (f : xhp) (H : Heap) : Prop := ∃ L : List Nat, L.Nodup ∧ (∀ a, a ∈ L ↔ (f a).isSome = true) ∧ va_P G.1 vwCl (va_pl L (xg G.2.1 f)) H
def xA (f : xhp) (sz : Nat) : Nat → Prop := fun q => (f q).isSome = true ∨ sz ≤ q
def xW (G : xG) (A : Nat → Prop) (s : State) (f : xhp) (H : Heap) (locs : List Loc) : Prop := xHP G f H ∧ (∀ a, (f a).isSome = true → A a) ∧ va_S A s.heap H locs
def xup (f : xhp) (a : Nat) (e : xE) : xhp := fun j => if j = a then some e else f j
def xlet {α : Sort _} {β : Sort _} (a : α) (k : α → β) : β := k a
def xV (f : xhp) (a ci k : Nat) (v : Value) : Prop := ∃ fs : List Value, f a = some (.inr (ci, fs)) ∧ fs[k]? = some v
def xO (f : xhp) (a ci : Nat) : Prop := ∃ fs : List Value, f a = some (.inr (ci, fs))
def xbI (g : Nat → Int32) : (Nat → Int32) ⊕ (Nat → Int64) ⊕ (Nat → UInt32) ⊕ (Nat → UInt64) ⊕ (Nat → Option Nat) := .inl g
def xbR (g : Nat → Option Nat) : (Nat → Int32) ⊕ (Nat → Int64) ⊕ (Nat → UInt32) ⊕ (Nat → UInt64) ⊕ (Nat → Option Nat) := .inr (.inr (.inr (.inr g)))
def xB (f : xhp) (a t n : Nat) (b : (Nat → Int32) ⊕ (Nat → Int64) ⊕ (Nat → UInt32) ⊕ (Nat → UInt64) ⊕ (Nat → Option Nat)) : Prop := f a = some (.inl (t, n, b))
abbrev xbd : Type := (Nat → Int32) ⊕ (Nat → Int64) ⊕ (Nat → UInt32) ⊕ (Nat → UInt64) ⊕ (Nat → Option Nat)
def xbL (g : Nat → Int64) : xbd := .inr (.inl g)
def xz (v : Int32) : Prop := v = 0 ∨ v = 1
theorem xup_self (f : xhp) (a : Nat) (e : xE) : xup f a e a = some e := if_pos rfl
theorem xup_ne (f : xhp) {a b : Nat} (e : xE) (h : b ≠ a) : xup f a e b = f b := if_neg h
theorem xg_up (kk : Nat → ClassId) (f : xhp) (a : Nat) (e : xE) : xg kk (xup f a e) = va_up (xg kk f) a (xtr kk e) := by
  funext j
  by_cases h : j = a
  · subst h; simp [xg, xup, va_up]
  · simp [xg, xup, va_up, h]
theorem xpl_D {A : Nat → Prop} {L : List Nat} {F : Nat → va_E} (hn : L.Nodup) (hA : ∀ a ∈ L, A a) : va_D A (va_pl L F) := by
  refine ⟨fun i j p q hi hj e => ?_, fun k q hk => ?_⟩
  · simp only [va_pl, List.getElem?_map] at hi hj
    obtain ⟨a, ha, rfl⟩ := Option.map_eq_some_iff.mp hi
    obtain ⟨b, hb, rfl⟩ := Option.map_eq_some_iff.mp hj
    have e : a = b := e
    subst e
    obtain ⟨h1, h2⟩ := List.getElem?_eq_some_iff.mp ha
    obtain ⟨h3, h4⟩ := List.getElem?_eq_some_iff.mp hb
    exact (List.getElem?_inj h1 hn).mp (ha.trans hb.symm)
  · simp only [va_pl, List.getElem?_map] at hk
    obtain ⟨a, ha, rfl⟩ := Option.map_eq_some_iff.mp hk
    exact hA a (List.mem_of_getElem? ha)
/-- the pool's place of a cell -/
theorem xHP.place {G : xG} {f : xhp} {H : Heap} {a : Nat} {e : xE} (h : xHP G f H) (hf : f a = some e) : ∃ (L : List Nat) (k : Nat), L.Nodup ∧ (∀ a, a ∈ L ↔ (f a).isSome = true) ∧ va_P G.1 vwCl (va_pl L (xg G.2.1 f)) H ∧ (va_pl L (xg G.2.1 f))[k]? = some (a, xtr G.2.1 e) ∧ a ∈ L := by
  obtain ⟨L, hn, hd, hP⟩ := h
  have ha : a ∈ L := (hd a).mpr (by rw [hf]; rfl)
  obtain ⟨k, hk⟩ := va_pl_get (X := []) (f := xg G.2.1 f) ha
  refine ⟨L, k, hn, hd, hP, ?_, ha⟩
  have e1 : xg G.2.1 f a = xtr G.2.1 e := by simp [xg, hf]
  rw [← e1]
  exact hk
/-- the pool behind a write -/
theorem xHP.wrote {G : xG} {A : Nat → Prop} {f : xhp} {H : Heap} {L : List Nat} {k a : Nat} {e0 e : xE} (hn : L.Nodup) (hd : ∀ a, a ∈ L ↔ (f a).isSome = true) (hf : f a = some e0) (ha : a ∈ L) (hD : va_D A (va_pl L (xg G.2.1 f))) (hk : (va_pl L (xg G.2.1 f))[k]? = some (a, xtr G.2.1 e0))
    (hP : va_P G.1 vwCl ((va_pl L (xg G.2.1 f)).set k (a, xtr G.2.1 e)) H) : xHP G (xup f a e) H := by
  have e1 : xg G.2.1 f a = xtr G.2.1 e0 := by simp [xg, hf]
  have h2 := va_pl_set (X := []) (e := xtr G.2.1 e) hD ha (by rw [e1]; exact hk)
  simp only [List.nil_append] at h2
  rw [h2, ← xg_up] at hP
  refine ⟨L, hn, fun b => ?_, hP⟩
  by_cases hb : b = a
  · subst hb; simp [xup, ha]
  · rw [xup_ne _ _ hb]; exact hd b
theorem xA_dom {f : xhp} {a : Nat} {A : Nat → Prop} {e0 e : xE} (hf : f a = some e0) (h : ∀ a, (f a).isSome = true → A a) : ∀ b, (xup f a e b).isSome = true → A b := by
  intro b hb
  by_cases hx : b = a
  · subst hx; exact h b (by rw [hf]; rfl)
  · rw [xup_ne _ _ hx] at hb; exact h b hb
abbrev xnS : Nat := 17
def xlenS : List Nat := [12, 25, 19, 8, 8, 4, 14, 10, 5, 9, 10, 21, 16, 10, 4, 4, 6]
def xbytS : List (List Int32) := [[99, 111, 110, 116, 101, 110, 116, 45, 116, 121, 112, 101], [99, 111, 110, 116, 101, 110, 116, 45, 116, 114, 97, 110, 115, 102, 101, 114, 45, 101, 110, 99, 111, 100, 105, 110, 103], [99, 111, 110, 116, 101, 110, 116, 45, 100, 105, 115, 112, 111, 115, 105, 116, 105, 111, 110], [98, 111, 117, 110, 100, 97, 114, 121], [102, 105, 108, 101, 110, 97, 109, 101], [110, 97, 109, 101], [109, 101, 115, 115, 97, 103, 101, 47, 114, 102, 99, 56, 50, 50], [116, 101, 120, 116, 47, 112, 108, 97, 105, 110], [116, 101, 120, 116, 47], [116, 101, 120, 116, 47, 104, 116, 109, 108], [109, 117, 108, 116, 105, 112, 97, 114, 116, 47], [109, 117, 108, 116, 105, 112, 97, 114, 116, 47, 97, 108, 116, 101, 114, 110, 97, 116, 105, 118, 101], [109, 117, 108, 116, 105, 112, 97, 114, 116, 47, 100, 105, 103, 101, 115, 116], [97, 116, 116, 97, 99, 104, 109, 101, 110, 116], [55, 98, 105, 116], [56, 98, 105, 116], [98, 105, 110, 97, 114, 121]]
/-- the literals: class, place in its pool, text, number -/
def xstr : List (String × Nat × String × Nat) := [("MailParts", 35, "content-type", 0), ("MailParts", 44, "content-transfer-encoding", 1), ("MailParts", 49, "content-disposition", 2), ("MailParts", 54, "boundary", 3), ("MailParts", 59, "filename", 4), ("MailParts", 64, "name", 5), ("MailParts", 244, "message/rfc822", 6), ("MailParts", 296, "text/plain", 7), ("MailParts", 231, "text/", 8), ("MailParts", 237, "text/html", 9), ("MailParts", 242, "multipart/", 10), ("MailParts", 246, "multipart/alternative", 11), ("MailParts", 251, "multipart/digest", 12), ("MailParts", 259, "attachment", 13), ("MailParts", 280, "7bit", 14), ("MailParts", 282, "8bit", 15), ("MailParts", 284, "binary", 16)]
theorem kx_max_static : Cond.static Lib.Math.max.name ∈ lw_tbl := kw_27
theorem kx_min_static : Cond.static Lib.Math.min.name ∈ lw_tbl := kw_390
theorem kx_max_init : Cond.initialized "java/lang/Math" ∈ lw_tbl := kw_3
theorem kx_max_code : Cond.code Lib.Math.max.name Lib.Math.max.code 2 (some .int) ∈ lw_tbl := kw_28
theorem kx_min_code : Cond.code Lib.Math.min.name Lib.Math.min.code 2 (some .int) ∈ lw_tbl := kw_391
theorem kx_obj_inst : Cond.instanceMethod objectInit ∈ lw_tbl := kw_18
theorem kx_obj_code : Cond.code objectInit ⟨#[0xb1]⟩ 1 none ∈ lw_tbl := kw_19
end
section
/-! LAYER 0, the machine's rows over the map heap -/
abbrev xrm (d mc ms : Nat) : Room := { frames := d, cells := mc, slots := ms, locals := 40 * d }
/-- array classes by their places -/
def xTY (kk : Nat → ClassId) : List (ClassId × FieldType) := [(kk 0, .int), (kk 1, .object "MailParts$Row"), (kk 2, .object "MailParts$Entity"), (kk 3, .byte), (kk 4, .long)]
abbrev xnT : Nat := 5
/-- the tables' words -/
def xWd (U : State) : Prop := ∀ w ∈ lw_tbl, w.onTables = true → w.keepsH = true → ∀ a : Array Value, w.before a U = true
/-- the words that make arrays -/
def xWa (U : State) : Prop := (∀ ty ∈ [FieldType.int, FieldType.byte, FieldType.long], ∀ a : Array Value, (Cond.arrayClass ty).before a U = true) ∧ va_AO "MailParts$Row" U ∧ va_AO "MailParts$Entity" U
/-- what stays for a whole method: words, classes, array classes, literals, two statics of the JDK's -/
def xK (G : xG) (A : Nat → Prop) (U : State) (H : Heap) : Prop := xWd U ∧ xWa U ∧ va_K G.1 vwCl (xTY G.2.1) U ∧ vk_S xnS xlenS xbytS G.2.2.1 G.2.2.2 A U H ∧ (∀ q ∈ xstr, vk_R q.1 q.2.1 q.2.2.1 (G.2.2.1 q.2.2.2) U) ∧ va_Z "java/lang/String" "COMPACT_STRINGS" "Z" (.int 1) A U H ∧ va_Zq "jdk/internal/util/Preconditions" "SIOOBE_FORMATTER" "Ljava/util/function/BiFunction;" A U H
def xX (p : Program) (R : Room) (s : State) (m : MethodId) (args : Array Value) (meth : Method) (c : Code) (G : xG) (A : Nat → Prop) (cc : ByteArray) (nL : Nat) (own : String) (ret : Option FieldType) (d mc ms : Nat) : Prop :=
  p.tables.exec = Jvm.exec ∧ c.code = cc ∧ c.maxLocals = nL ∧ s.vm.findClass own = some m.cls ∧ xK G A s s.heap ∧ meth.sig.returnType = ret ∧ meth.locks = false ∧ (∀ q, s.heap.size ≤ q → A q) ∧ d ≤ R.frames ∧ 40 * d ≤ R.locals ∧ mc = R.cells ∧ ms = R.slots
def xPre (G : xG) (f : xhp) (sz : Nat) (U : State) : Prop := U.heap.size = sz ∧ xHP G f U.heap ∧ xK G (xA f sz) U U.heap
def xAt (G : xG) (f0 : xhp) (sz : Nat) (f : xhp) (t : State) : Prop := xHP G f t.heap ∧ ∀ a, (f a).isSome = true → xA f0 sz a
abbrev xMi (l : Launch) (G : xG) (y : MethodName) (cc : ByteArray) (nL : Nat) (ret : Option FieldType) (d mc ms : Nat) (av : List Value) (f : xhp) (post : Int32 → xhp → Prop) : Prop := ∀ sz, Met l y [.code y cc nL ret] (xrm d mc ms) (va_Pc av (xPre G f sz)) (va_Qi post (xAt G f sz) (xA f sz)) mc ms (xA f sz)
abbrev xMl (l : Launch) (G : xG) (y : MethodName) (cc : ByteArray) (nL : Nat) (ret : Option FieldType) (d mc ms : Nat) (av : List Value) (f : xhp) (post : Int64 → xhp → Prop) : Prop := ∀ sz, Met l y [.code y cc nL ret] (xrm d mc ms) (va_Pc av (xPre G f sz)) (va_Ql post (xAt G f sz) (xA f sz)) mc ms (xA f sz)
abbrev xMv (l : Launch) (G : xG) (y : MethodName) (cc : ByteArray) (nL : Nat) (ret : Option FieldType) (d mc ms : Nat) (av : List Value) (f : xhp) (post : xhp → Prop) : Prop := ∀ sz, Met l y [.code y cc nL ret] (xrm d mc ms) (va_Pc av (xPre G f sz)) (va_Qv post (xAt G f sz) (xA f sz)) mc ms (xA f sz)
abbrev xMq (l : Launch) (G : xG) (y : MethodName) (cc : ByteArray) (nL : Nat) (ret : Option FieldType) (d mc ms : Nat) (av : List Value) (f : xhp) (post : Option Nat → xhp → Prop) : Prop := ∀ sz, Met l y [.code y cc nL ret] (xrm d mc ms) (va_Pc av (xPre G f sz)) (va_Qq post (xAt G f sz) (xA f sz)) mc ms (xA f sz)
theorem xWd.same {u U : State} (hv : u.vm = U.vm) (h : xWd u) : xWd U := fun w hw h1 h2 a => va_tabs h1 hv (h w hw h1 h2 #[])
theorem xWd.warm {s U : State} (hW : s.WarmedH U.vm) (h : xWd s) : xWd U := fun w hw h1 h2 a => by
  have h3 := Cond.onTables_warmH (T := U) (args' := a) hW h1 h2 (h w hw h1 h2 #[])
  rwa [State.setVm_self] at h3
theorem xWa.warm {s U : State} (hW : s.WarmedH U.vm) (h : xWa s) : xWa U := ⟨fun ty ht a => word_at hW (Or.inr ⟨ty, rfl⟩) (h.1 ty ht #[]), h.2.1.moved hW.alike, h.2.2.moved hW.alike⟩
theorem xWa.same {u U : State} (hv : u.vm = U.vm) (h : xWa u) : xWa U := ⟨fun ty ht a => by
  have h1 := h.1 ty ht a
  simp only [Cond.before, Cond.holds, Cond.value] at h1 ⊢
  rw [← hv]
  exact h1, h.2.1.moved (by rw [hv]; exact Vm.Alike.refl U.vm), h.2.2.moved (by rw [hv]; exact Vm.Alike.refl U.vm)⟩
theorem xK.blind {G : xG} {A : Nat → Prop} {U : State} {H : Heap} (g : JFrame) (mk : MethodId) (a : Array Value) (h : xK G A U H) : xK G A (U.calling g mk a) H :=
  ⟨xWd.same (u := U) rfl h.1, xWa.same (u := U) rfl h.2.1, va_K.moved (u := U) (U := U.calling g mk a) (Vm.Alike.refl U.vm) h.2.2.1, vk_S.moved (u := U) (U := U.calling g mk a) (Vm.Alike.refl U.vm) h.2.2.2.1, fun q hq => vk_R.same (u := U) rfl (h.2.2.2.2.1 q hq), va_Z.moved (u := U) (U := U.calling g mk a) (Vm.Alike.refl U.vm) h.2.2.2.2.2.1, va_Zq.moved (u := U) (U := U.calling g mk a) (Vm.Alike.refl U.vm) h.2.2.2.2.2.2⟩
theorem xPre.blind (G : xG) (f : xhp) (sz : Nat) (av : List Value) : FrameBlind (va_Pc av (xPre G f sz)) :=
  fun a U g mk q => ⟨q.1, q.2.1, q.2.2.1, q.2.2.2.blind g mk a⟩
theorem x_cat (r : Option Nat) : (va_rf r).category = 1 := by cases r <;> rfl
theorem xz_nar {v : Int32} (h : xz v) : narrow .boolean (.int v) = .int v := by rcases h with rfl | rfl <;> decide +kernel
theorem xz_fit {v : Int32} (h : xz v) : fits .boolean (.int v) = true := by rcases h with rfl | rfl <;> decide +kernel
theorem xTY_at (kk : Nat → ClassId) {t : Nat} (h : t < xnT) : ∃ ty, (xTY kk)[t]? = some (kk t, ty) := by
  rcases (show t = 0 ∨ t = 1 ∨ t = 2 ∨ t = 3 ∨ t = 4 by unfold xnT at h; omega) with rfl | rfl | rfl | rfl | rfl <;> exact ⟨_, rfl⟩
/-- array types of references and the classes of what lies in them -/
def xTC (t ci : Nat) : Prop := (t = 1 ∧ ci = 2) ∨ (t = 2 ∧ ci = 0)
section XL
variable {p : Program} {l : Launch} {e : Env} {R : Room} {s : State} {m : MethodId} {args : Array Value} {below : List Frame} {meth : Method} {c : Code} {H : Heap} {locs : List Loc} {cells slots : Nat} {Q : State → Prop}
variable {cc : ByteArray} {pc : Nat} {ls : Array Slot} {rest : List Value} {G : xG} {A : Nat → Prop} {f : xhp} {nL d mc ms : Nat} {own : String} {ret : Option FieldType}
theorem x_aload_n (hx : p.tables.exec = Jvm.exec) (hb : c.code = cc) {k : Fin 4} {i : Nat} {r : Option Nat} (hdg : decode cc pc = .ok (.aload_n k, 1)) (hi : (k : Nat) = i) (hl : ls[i]? = some (.val (va_rf r)))
    (kk : W p l e R s m args below meth c H locs cells slots Q (F0 m (pc + 1) ls (va_rf r :: rest))) : W p l e R s m args below meth c H locs cells slots Q (F0 m pc ls rest) := by
  cases r with
  | none => exact lv_aload_nN hx hb hdg hi hl kk
  | some a => exact lv_aload_n hx hb hdg hi hl kk
theorem x_aload (hx : p.tables.exec = Jvm.exec) (hb : c.code = cc) {i : Nat} {r : Option Nat} (hdg : decode cc pc = .ok (.aload i, 2)) (hl : ls[i]? = some (.val (va_rf r)))
    (kk : W p l e R s m args below meth c H locs cells slots Q (F0 m (pc + 2) ls (va_rf r :: rest))) : W p l e R s m args below meth c H locs cells slots Q (F0 m pc ls rest) := by
  cases r with
  | none => exact lv_aloadN hx hb hdg hl kk
  | some a => exact lv_aload hx hb hdg hl kk
theorem x_astore_n (hx : p.tables.exec = Jvm.exec) (hb : c.code = cc) {k : Fin 4} {i nL : Nat} {r : Option Nat} {lv lv' : List (Nat × Value)} (hdg : decode cc pc = .ok (.astore_n k, 1)) (hi : (k : Nat) = i) (h : lv_has ls nL lv) (hn : i < nL) (hl : (i, va_rf r) :: lv.filter (fun q => !(q.1 == i) && !(q.1 + 1 == i && q.2.category == 2)) = lv')
    (kk : ∀ ls' : Array Slot, lv_has ls' nL lv' → W p l e R s m args below meth c H locs cells slots Q (F0 m (pc + 1) ls' rest)) : W p l e R s m args below meth c H locs cells slots Q (F0 m pc ls (va_rf r :: rest)) := by
  cases r with
  | none => exact lv_astore_nN hx hb hdg hi h hn hl kk
  | some a => exact lv_astore_n hx hb hdg hi h hn hl kk
theorem x_astore (hx : p.tables.exec = Jvm.exec) (hb : c.code = cc) {i nL : Nat} {r : Option Nat} {lv lv' : List (Nat × Value)} (hdg : decode cc pc = .ok (.astore i, 2)) (h : lv_has ls nL lv) (hn : i < nL) (hl : (i, va_rf r) :: lv.filter (fun q => !(q.1 == i) && !(q.1 + 1 == i && q.2.category == 2)) = lv')
    (kk : ∀ ls' : Array Slot, lv_has ls' nL lv' → W p l e R s m args below meth c H locs cells slots Q (F0 m (pc + 2) ls' rest)) : W p l e R s m args below meth c H locs cells slots Q (F0 m pc ls (va_rf r :: rest)) := by
  cases r with
  | none => exact lv_astoreN hx hb hdg h hn hl kk
  | some a => exact lv_astore hx hb hdg h hn hl kk
theorem x_get (hX : xX p R s m args meth c G A cc nL own ret d mc ms) (hW : xW G A s f H locs) {C ref : String} {T : u_T} {N ci k index a : Nat} {v : Value} (hv : xV f a ci k v) (hin : ∀ w ∈ u_ws C T N, w ∈ lw_tbl ∧ w.onTables = true ∧ w.keepsH = true) (hc : vwCl[ci]? = some (C, T, N)) (hk : k < N) (hl : Cond.fieldLink own index ref (T k).2.1 (T k).2.2.1 ∈ lw_tbl) (hdecl : (T k).1 = ref) (hdg : decode cc pc = .ok (.getfield index, 3))
    (kk : W p l e R s m args below meth c H locs cells slots Q (F0 m (pc + 3) ls (v :: rest))) : W p l e R s m args below meth c H locs cells slots Q (F0 m pc ls (.ref a :: rest)) := by
  obtain ⟨fs, h1, h2⟩ := hv
  obtain ⟨hx, hb, hml, hown, hK, -⟩ := hX
  obtain ⟨L, q0, hn, hd, hP, hq, ha⟩ := hW.1.place h1
  exact va_get (Ts := u_ws C T N) hx hb (fun w hw => hK.1 w (hin w hw).1 (hin w hw).2.1 (hin w hw).2.2 _) (fun _ h => h) hown hK.2.2.1 hP q0 hq hc k hk (hK.1 _ hl rfl rfl _) (fun x h => by rw [hdecl] at h; exact h) h2 hdg kk
theorem x_getN (hX : xX p R s m args meth c G A cc nL own ret d mc ms) (hW : xW G A s f H locs) {C ref host : String} {T : u_T} {N ci k index a : Nat} {v : Value} (hv : xV f a ci k v) (hin : ∀ w ∈ u_ws C T N, w ∈ lw_tbl ∧ w.onTables = true ∧ w.keepsH = true) (hc : vwCl[ci]? = some (C, T, N)) (hk : k < N) (hl : Cond.fieldLinkNest own index ref (T k).2.1 (T k).2.2.1 host ∈ lw_tbl) (hdecl : (T k).1 = ref) (hdg : decode cc pc = .ok (.getfield index, 3))
    (kk : W p l e R s m args below meth c H locs cells slots Q (F0 m (pc + 3) ls (v :: rest))) : W p l e R s m args below meth c H locs cells slots Q (F0 m pc ls (.ref a :: rest)) := by
  obtain ⟨fs, h1, h2⟩ := hv
  obtain ⟨hx, hb, hml, hown, hK, -⟩ := hX
  obtain ⟨L, q0, hn, hd, hP, hq, ha⟩ := hW.1.place h1
  exact va_getN (Ts := u_ws C T N) hx hb (fun w hw => hK.1 w (hin w hw).1 (hin w hw).2.1 (hin w hw).2.2 _) (fun _ h => h) hown hK.2.2.1 hP q0 hq hc k hk (hK.1 _ hl rfl rfl _) (fun x h => by rw [hdecl] at h; exact h) h2 hdg kk
theorem x_put (hX : xX p R s m args meth c G A cc nL own ret d mc ms) (hW : xW G A s f H locs) {C ref : String} {T : u_T} {N ci k index a : Nat} {v : Value} {fs : List Value} (hv : f a = some (.inr (ci, fs))) (hlen : k < fs.length) (hin : ∀ w ∈ u_ws C T N, w ∈ lw_tbl ∧ w.onTables = true ∧ w.keepsH = true) (ty0 : Nat → FieldType) (hty : ∀ k, k < N → parseFieldDescriptor (T k).2.2.1 = some (ty0 k)) (hnm : ∀ a, a < N → ∀ b, b < N → a ≠ b → (T a).2.1 ≠ (T b).2.1) (hc : vwCl[ci]? = some (C, T, N)) (hk : k < N) (hl : Cond.fieldLink own index ref (T k).2.1 (T k).2.2.1 ∈ lw_tbl) (hdecl : (T k).1 = ref) (hfin : (T k).2.2.2 = false) (hn : narrow (ty0 k) v = v) (hfit : fits (ty0 k) v = true) (hdg : decode cc pc = .ok (.putfield index, 3))
    (kk : ∀ (f1 : xhp) (H1 : Heap) (locs1 : List Loc), f1 = xup f a (.inr (ci, fs.set k v)) → xW G A s f1 H1 locs1 → W p l e R s m args below meth c H1 locs1 cells slots Q (F0 m (pc + 3) ls rest)) : W p l e R s m args below meth c H locs cells slots Q (F0 m pc ls (v :: .ref a :: rest)) := by
  obtain ⟨hx, hb, hml, hown, hK, -⟩ := hX
  obtain ⟨L, q0, hno, hd, hP, hq, ha⟩ := hW.1.place hv
  have hD : va_D A (va_pl L (xg G.2.1 f)) := xpl_D hno (fun b hb2 => hW.2.1 b ((hd b).mp hb2))
  exact va_put (Ts := u_ws C T N) hx hb (fun w hw => hK.1 w (hin w hw).1 (hin w hw).2.1 (hin w hw).2.2 _) (fun _ h => h) ty0 hty hnm hown hK.2.2.1 hP hD hW.2.2 q0 hq hc k hk (hK.1 _ hl rfl rfl _) (fun x h => by rw [hdecl] at h; exact h) hfin (hty k hk) hn hfit hlen hdg (fun H1 locs1 hP1 hD1 hS1 => kk _ H1 locs1 rfl ⟨xHP.wrote (e := .inr (ci, fs.set k v)) hno hd hv ha hD hq hP1, xA_dom hv hW.2.1, hS1⟩)
theorem x_putN (hX : xX p R s m args meth c G A cc nL own ret d mc ms) (hW : xW G A s f H locs) {C ref host : String} {T : u_T} {N ci k index a : Nat} {v : Value} {fs : List Value} (hv : f a = some (.inr (ci, fs))) (hlen : k < fs.length) (hin : ∀ w ∈ u_ws C T N, w ∈ lw_tbl ∧ w.onTables = true ∧ w.keepsH = true) (ty0 : Nat → FieldType) (hty : ∀ k, k < N → parseFieldDescriptor (T k).2.2.1 = some (ty0 k)) (hnm : ∀ a, a < N → ∀ b, b < N → a ≠ b → (T a).2.1 ≠ (T b).2.1) (hc : vwCl[ci]? = some (C, T, N)) (hk : k < N) (hl : Cond.fieldLinkNest own index ref (T k).2.1 (T k).2.2.1 host ∈ lw_tbl) (hdecl : (T k).1 = ref) (hfin : (T k).2.2.2 = false) (hn : narrow (ty0 k) v = v) (hfit : fits (ty0 k) v = true) (hdg : decode cc pc = .ok (.putfield index, 3))
    (kk : ∀ (f1 : xhp) (H1 : Heap) (locs1 : List Loc), f1 = xup f a (.inr (ci, fs.set k v)) → xW G A s f1 H1 locs1 → W p l e R s m args below meth c H1 locs1 cells slots Q (F0 m (pc + 3) ls rest)) : W p l e R s m args below meth c H locs cells slots Q (F0 m pc ls (v :: .ref a :: rest)) := by
  obtain ⟨hx, hb, hml, hown, hK, -⟩ := hX
  obtain ⟨L, q0, hno, hd, hP, hq, ha⟩ := hW.1.place hv
  have hD : va_D A (va_pl L (xg G.2.1 f)) := xpl_D hno (fun b hb2 => hW.2.1 b ((hd b).mp hb2))
  exact va_putN (Ts := u_ws C T N) hx hb (fun w hw => hK.1 w (hin w hw).1 (hin w hw).2.1 (hin w hw).2.2 _) (fun _ h => h) ty0 hty hnm hown hK.2.2.1 hP hD hW.2.2 q0 hq hc k hk (hK.1 _ hl rfl rfl _) (fun x h => by rw [hdecl] at h; exact h) hfin (hty k hk) hn hfit hlen hdg (fun H1 locs1 hP1 hD1 hS1 => kk _ H1 locs1 rfl ⟨xHP.wrote (e := .inr (ci, fs.set k v)) hno hd hv ha hD hq hP1, xA_dom hv hW.2.1, hS1⟩)
theorem x_putF (hin2 : meth.name = "<init>") (hX : xX p R s m args meth c G A cc nL own ret d mc ms) (hW : xW G A s f H locs) {C ref : String} {T : u_T} {N ci k index a : Nat} {v : Value} {fs : List Value} (hv : f a = some (.inr (ci, fs))) (hlen : k < fs.length) (hin : ∀ w ∈ u_ws C T N, w ∈ lw_tbl ∧ w.onTables = true ∧ w.keepsH = true) (ty0 : Nat → FieldType) (hty : ∀ k, k < N → parseFieldDescriptor (T k).2.2.1 = some (ty0 k)) (hnm : ∀ a, a < N → ∀ b, b < N → a ≠ b → (T a).2.1 ≠ (T b).2.1) (hc : vwCl[ci]? = some (C, T, N)) (hk : k < N) (hl : Cond.fieldLink own index ref (T k).2.1 (T k).2.2.1 ∈ lw_tbl) (hdecl : (T k).1 = ref) (hro : ref = own) (hfin : (T k).2.2.2 = true) (hn : narrow (ty0 k) v = v) (hfit : fits (ty0 k) v = true) (hdg : decode cc pc = .ok (.putfield index, 3))
    (kk : ∀ (f1 : xhp) (H1 : Heap) (locs1 : List Loc), f1 = xup f a (.inr (ci, fs.set k v)) → xW G A s f1 H1 locs1 → W p l e R s m args below meth c H1 locs1 cells slots Q (F0 m (pc + 3) ls rest)) : W p l e R s m args below meth c H locs cells slots Q (F0 m pc ls (v :: .ref a :: rest)) := by
  obtain ⟨hx, hb, hml, hown, hK, -⟩ := hX
  obtain ⟨L, q0, hno, hd, hP, hq, ha⟩ := hW.1.place hv
  have hD : va_D A (va_pl L (xg G.2.1 f)) := xpl_D hno (fun b hb2 => hW.2.1 b ((hd b).mp hb2))
  exact va_putF (Ts := u_ws C T N) hx hb (fun w hw => hK.1 w (hin w hw).1 (hin w hw).2.1 (hin w hw).2.2 _) (fun _ h => h) ty0 hty hnm hown hK.2.2.1 hP hD hW.2.2 q0 hq hc k hk (hK.1 _ hl rfl rfl _) (fun x h => by rw [hdecl] at h; exact h) hfin hin2 (hdecl.trans hro) (hty k hk) hn hfit hlen hdg (fun H1 locs1 hP1 hD1 hS1 => kk _ H1 locs1 rfl ⟨xHP.wrote (e := .inr (ci, fs.set k v)) hno hd hv ha hD hq hP1, xA_dom hv hW.2.1, hS1⟩)
theorem x_iald (hX : xX p R s m args meth c G A cc nL own ret d mc ms) (hW : xW G A s f H locs) {a n : Nat} {g : Nat → Int32} {i : Int32} (hv : xB f a 0 n (xbI g)) (hi : vp_in i n) (hdg : decode cc pc = .ok (.iaload, 1))
    (kk : W p l e R s m args below meth c H locs cells slots Q (F0 m (pc + 1) ls (.int (g i.toNatClampNeg) :: rest))) : W p l e R s m args below meth c H locs cells slots Q (F0 m pc ls (.int i :: .ref a :: rest)) := by
  obtain ⟨hx, hb, hml, hown, hK, -⟩ := hX
  obtain ⟨L, q0, hno, hd, hP, hq, ha⟩ := hW.1.place hv
  exact va_iald hx hb hK.2.2.1 hP q0 0 hq rfl hi hdg kk
theorem x_iast (hX : xX p R s m args meth c G A cc nL own ret d mc ms) (hW : xW G A s f H locs) {a n : Nat} {g : Nat → Int32} {i x : Int32} (hv : xB f a 0 n (xbI g)) (hi : vp_in i n) (hdg : decode cc pc = .ok (.iastore, 1))
    (kk : ∀ (f1 : xhp) (H1 : Heap) (locs1 : List Loc), f1 = xup f a (.inl (0, n, xbI (upd g i.toNatClampNeg x))) → xW G A s f1 H1 locs1 → W p l e R s m args below meth c H1 locs1 cells slots Q (F0 m (pc + 1) ls rest)) : W p l e R s m args below meth c H locs cells slots Q (F0 m pc ls (.int x :: .int i :: .ref a :: rest)) := by
  obtain ⟨hx, hb, hml, hown, hK, -⟩ := hX
  obtain ⟨L, q0, hno, hd, hP, hq, ha⟩ := hW.1.place hv
  have hD : va_D A (va_pl L (xg G.2.1 f)) := xpl_D hno (fun b hb2 => hW.2.1 b ((hd b).mp hb2))
  exact va_iast hx hb hK.2.2.1 hP hD hW.2.2 q0 0 hq rfl hi hdg (fun H1 locs1 hP1 hD1 hS1 => kk _ H1 locs1 rfl ⟨xHP.wrote (e := .inl (0, n, xbI (upd g i.toNatClampNeg x))) hno hd hv ha hD hq hP1, xA_dom hv hW.2.1, hS1⟩)
theorem x_bald (hX : xX p R s m args meth c G A cc nL own ret d mc ms) (hW : xW G A s f H locs) {a n : Nat} {g : Nat → Int32} {i : Int32} (hv : xB f a 3 n (xbI g)) (hi : vp_in i n) (hdg : decode cc pc = .ok (.baload, 1))
    (kk : W p l e R s m args below meth c H locs cells slots Q (F0 m (pc + 1) ls (.int (g i.toNatClampNeg) :: rest))) : W p l e R s m args below meth c H locs cells slots Q (F0 m pc ls (.int i :: .ref a :: rest)) := by
  obtain ⟨hx, hb, hml, hown, hK, -⟩ := hX
  obtain ⟨L, q0, hno, hd, hP, hq, ha⟩ := hW.1.place hv
  exact va_bald hx hb hK.2.2.1 hP q0 3 hq rfl hi hdg kk
theorem x_bast (hX : xX p R s m args meth c G A cc nL own ret d mc ms) (hW : xW G A s f H locs) {a n : Nat} {g : Nat → Int32} {i x : Int32} (hv : xB f a 3 n (xbI g)) (hi : vp_in i n) (hdg : decode cc pc = .ok (.bastore, 1))
    (kk : ∀ (f1 : xhp) (H1 : Heap) (locs1 : List Loc), f1 = xup f a (.inl (3, n, xbI (upd g i.toNatClampNeg (vp_nar .byte x)))) → xW G A s f1 H1 locs1 → W p l e R s m args below meth c H1 locs1 cells slots Q (F0 m (pc + 1) ls rest)) : W p l e R s m args below meth c H locs cells slots Q (F0 m pc ls (.int x :: .int i :: .ref a :: rest)) := by
  obtain ⟨hx, hb, hml, hown, hK, -⟩ := hX
  obtain ⟨L, q0, hno, hd, hP, hq, ha⟩ := hW.1.place hv
  have hD : va_D A (va_pl L (xg G.2.1 f)) := xpl_D hno (fun b hb2 => hW.2.1 b ((hd b).mp hb2))
  exact va_bast hx hb hK.2.2.1 hP hD hW.2.2 q0 3 hq rfl hi hdg (fun H1 locs1 hP1 hD1 hS1 => kk _ H1 locs1 rfl ⟨xHP.wrote (e := .inl (3, n, xbI (upd g i.toNatClampNeg (vp_nar .byte x)))) hno hd hv ha hD hq hP1, xA_dom hv hW.2.1, hS1⟩)
theorem x_lald (hX : xX p R s m args meth c G A cc nL own ret d mc ms) (hW : xW G A s f H locs) {a n : Nat} {g : Nat → Int64} {i : Int32} (hv : xB f a 4 n (xbL g)) (hi : vp_in i n) (hdg : decode cc pc = .ok (.laload, 1))
    (kk : W p l e R s m args below meth c H locs cells slots Q (F0 m (pc + 1) ls (.long (g i.toNatClampNeg) :: rest))) : W p l e R s m args below meth c H locs cells slots Q (F0 m pc ls (.int i :: .ref a :: rest)) := by
  obtain ⟨hx, hb, hml, hown, hK, -⟩ := hX
  obtain ⟨L, q0, hno, hd, hP, hq, ha⟩ := hW.1.place hv
  exact va_lald hx hb hK.2.2.1 hP q0 4 hq rfl hi hdg kk
theorem x_last (hX : xX p R s m args meth c G A cc nL own ret d mc ms) (hW : xW G A s f H locs) {a n : Nat} {g : Nat → Int64} {i : Int32} {x : Int64} (hv : xB f a 4 n (xbL g)) (hi : vp_in i n) (hdg : decode cc pc = .ok (.lastore, 1))
    (kk : ∀ (f1 : xhp) (H1 : Heap) (locs1 : List Loc), f1 = xup f a (.inl (4, n, xbL (vp_updL g i.toNatClampNeg x))) → xW G A s f1 H1 locs1 → W p l e R s m args below meth c H1 locs1 cells slots Q (F0 m (pc + 1) ls rest)) : W p l e R s m args below meth c H locs cells slots Q (F0 m pc ls (.long x :: .int i :: .ref a :: rest)) := by
  obtain ⟨hx, hb, hml, hown, hK, -⟩ := hX
  obtain ⟨L, q0, hno, hd, hP, hq, ha⟩ := hW.1.place hv
  have hD : va_D A (va_pl L (xg G.2.1 f)) := xpl_D hno (fun b hb2 => hW.2.1 b ((hd b).mp hb2))
  exact va_last hx hb hK.2.2.1 hP hD hW.2.2 q0 4 hq rfl hi hdg (fun H1 locs1 hP1 hD1 hS1 => kk _ H1 locs1 rfl ⟨xHP.wrote (e := .inl (4, n, xbL (vp_updL g i.toNatClampNeg x))) hno hd hv ha hD hq hP1, xA_dom hv hW.2.1, hS1⟩)
theorem x_aald (hX : xX p R s m args meth c G A cc nL own ret d mc ms) (hW : xW G A s f H locs) {a t ci n : Nat} {g : Nat → Option Nat} {i : Int32} (hv : xB f a t n (xbR g)) (htc : xTC t ci) (hi : vp_in i n) (hdg : decode cc pc = .ok (.aaload, 1))
    (kk : ∀ r : Option Nat, r = g i.toNatClampNeg → W p l e R s m args below meth c H locs cells slots Q (F0 m (pc + 1) ls (va_rf r :: rest))) : W p l e R s m args below meth c H locs cells slots Q (F0 m pc ls (.int i :: .ref a :: rest)) := by
  obtain ⟨hx, hb, hml, hown, hK, -⟩ := hX
  obtain ⟨L, q0, hno, hd, hP, hq, ha⟩ := hW.1.place hv
  rcases htc with ⟨rfl, rfl⟩ | ⟨rfl, rfl⟩
  · exact va_aldq hx hb hK.2.2.1 hP q0 1 hq rfl hi hdg (kk _ rfl)
  · exact va_aldq hx hb hK.2.2.1 hP q0 2 hq rfl hi hdg (kk _ rfl)
theorem x_aast (hX : xX p R s m args meth c G A cc nL own ret d mc ms) (hW : xW G A s f H locs) {a t ci n v : Nat} {g : Nat → Option Nat} {i : Int32} (hv : xB f a t n (xbR g)) (htc : xTC t ci) (ho : xO f v ci) (hi : vp_in i n) (hdg : decode cc pc = .ok (.aastore, 1))
    (kk : ∀ (f1 : xhp) (H1 : Heap) (locs1 : List Loc), f1 = xup f a (.inl (t, n, xbR (va_up g i.toNatClampNeg (some v)))) → xW G A s f1 H1 locs1 → W p l e R s m args below meth c H1 locs1 cells slots Q (F0 m (pc + 1) ls rest)) : W p l e R s m args below meth c H locs cells slots Q (F0 m pc ls (.ref v :: .int i :: .ref a :: rest)) := by
  obtain ⟨hx, hb, hml, hown, hK, -⟩ := hX
  obtain ⟨fs, ho⟩ := ho
  obtain ⟨L, q0, hno, hd, hP, hq, ha⟩ := hW.1.place hv
  obtain ⟨q1, hq1⟩ := va_pl_get (X := []) (f := xg G.2.1 f) ((hd v).mpr (by rw [ho]; rfl))
  have e1 : xg G.2.1 f v = .inr (ci, fs) := by simp [xg, ho, xtr]
  rw [e1] at hq1
  have hD : va_D A (va_pl L (xg G.2.1 f)) := xpl_D hno (fun b hb2 => hW.2.1 b ((hd b).mp hb2))
  rcases htc with ⟨rfl, rfl⟩ | ⟨rfl, rfl⟩
  · exact va_astq hx hb hK.2.2.1 hP hD hW.2.2 q0 1 q1 2 (r := ("MailParts$Row", T_Ro, 2)) hq rfl hq1 rfl hi hdg (fun H1 locs1 hP1 hD1 hS1 => kk _ H1 locs1 rfl ⟨xHP.wrote (e := .inl (1, n, xbR (va_up g i.toNatClampNeg (some v)))) hno hd hv ha hD hq hP1, xA_dom hv hW.2.1, hS1⟩)
  · exact va_astq hx hb hK.2.2.1 hP hD hW.2.2 q0 2 q1 0 (r := ("MailParts$Entity", T_En, 17)) hq rfl hq1 rfl hi hdg (fun H1 locs1 hP1 hD1 hS1 => kk _ H1 locs1 rfl ⟨xHP.wrote (e := .inl (2, n, xbR (va_up g i.toNatClampNeg (some v)))) hno hd hv ha hD hq hP1, xA_dom hv hW.2.1, hS1⟩)
theorem x_alen (hX : xX p R s m args meth c G A cc nL own ret d mc ms) (hW : xW G A s f H locs) {a t n : Nat} {b : xbd} (hv : xB f a t n b) (ht : t < xnT) (hdg : decode cc pc = .ok (.arraylength, 1))
    (kk : W p l e R s m args below meth c H locs cells slots Q (F0 m (pc + 1) ls (.int (nI n) :: rest))) : W p l e R s m args below meth c H locs cells slots Q (F0 m pc ls (.ref a :: rest)) := by
  obtain ⟨hx, hb, hml, hown, hK, -⟩ := hX
  obtain ⟨L, q0, hno, hd, hP, hq, ha⟩ := hW.1.place hv
  obtain ⟨ty, hty⟩ := xTY_at G.2.1 ht
  exact va_alen hx hb hK.2.2.1 hP q0 t hq hty rfl hdg kk
end XL
end
section
/-- what a callee's name and code must be -/
def xY (y : MethodName) (n : Nat) : Prop := (y.cls ≠ "java/lang/invoke/MethodHandle" ∧ y.cls ≠ "java/lang/invoke/VarHandle") ∧ (parseMethodDescriptor y.desc).map (fun d => d.parameters.length) = some n
theorem xY_n {y : MethodName} {n : Nat} (h : xY y n) : ∀ sig, parseMethodDescriptor y.desc = some sig → n = sig.parameters.length := fun sig hs => by
  have h2 := h.2
  rw [hs] at h2
  exact (Option.some.inj h2).symm
section XE
variable {p : Program} {l : Launch} {e : Env} {R : Room} {s : State} {m : MethodId} {args : Array Value} {below : List Frame} {meth : Method} {c : Code} {H : Heap} {locs : List Loc} {cells slots : Nat} {Q : State → Prop}
variable {cc : ByteArray} {pc : Nat} {ls : Array Slot} {rest : List Value} {G : xG} {A : Nat → Prop} {f : xhp} {nL d mc ms : Nat} {own : String} {ret : Option FieldType}
-- the ends
theorem x_iret {f0 : xhp} {sz : Nat} (hX : xX p R s m args meth c G (xA f0 sz) cc nL own (some .int) d mc ms) (hW : xW G (xA f0 sz) s f H locs) {post : Int32 → xhp → Prop} {v : Int32} (h : post v f) (hdg : decode cc pc = .ok (.ireturn, 1)) : W p l e R s m args below meth c H locs cells slots (MQ below (va_Qi post (xAt G f0 sz) (xA f0 sz)) args s cells slots (xA f0 sz)) (F0 m pc ls [.int v]) := by
  obtain ⟨hx, hb, hml, hown, hK, hr, hlk, -⟩ := hX
  exact W.iret (v := v) hx hb hr (fun t ht _ => ⟨⟨v, f, rfl, h, by rw [ht]; exact hW.1, hW.2.1⟩, hW.2.2.F ht⟩) hW.2.2.2.2 hdg hlk
theorem x_lret {f0 : xhp} {sz : Nat} (hX : xX p R s m args meth c G (xA f0 sz) cc nL own (some .long) d mc ms) (hW : xW G (xA f0 sz) s f H locs) {post : Int64 → xhp → Prop} {v : Int64} (h : post v f) (hdg : decode cc pc = .ok (.lreturn, 1)) : W p l e R s m args below meth c H locs cells slots (MQ below (va_Ql post (xAt G f0 sz) (xA f0 sz)) args s cells slots (xA f0 sz)) (F0 m pc ls [.long v]) := by
  obtain ⟨hx, hb, hml, hown, hK, hr, hlk, -⟩ := hX
  exact W.lret (v := v) hx hb hr (fun t ht _ => ⟨⟨v, f, rfl, h, by rw [ht]; exact hW.1, hW.2.1⟩, hW.2.2.F ht⟩) hW.2.2.2.2 hdg hlk
theorem x_zret {f0 : xhp} {sz : Nat} (hX : xX p R s m args meth c G (xA f0 sz) cc nL own (some .boolean) d mc ms) (hW : xW G (xA f0 sz) s f H locs) {post : Int32 → xhp → Prop} {v : Int32} (hz : xz v) (h : post v f) (hdg : decode cc pc = .ok (.ireturn, 1)) : W p l e R s m args below meth c H locs cells slots (MQ below (va_Qi post (xAt G f0 sz) (xA f0 sz)) args s cells slots (xA f0 sz)) (F0 m pc ls [.int v]) := by
  obtain ⟨hx, hb, hml, hown, hK, hr, hlk, -⟩ := hX
  exact W.zret (v := v) (ty := .boolean) hx hb hr (xz_nar hz) (fun t ht _ => ⟨⟨v, f, rfl, h, by rw [ht]; exact hW.1, hW.2.1⟩, hW.2.2.F ht⟩) hW.2.2.2.2 hdg hlk
theorem x_vret {f0 : xhp} {sz : Nat} (hX : xX p R s m args meth c G (xA f0 sz) cc nL own none d mc ms) (hW : xW G (xA f0 sz) s f H locs) {post : xhp → Prop} (h : post f) (hdg : decode cc pc = .ok (.return_, 1)) : W p l e R s m args below meth c H locs cells slots (MQ below (va_Qv post (xAt G f0 sz) (xA f0 sz)) args s cells slots (xA f0 sz)) (F0 m pc ls []) := by
  obtain ⟨hx, hb, hml, hown, hK, hr, hlk, -⟩ := hX
  exact W.vret hx hb hr (fun t ht _ => ⟨⟨f, rfl, h, by rw [ht]; exact hW.1, hW.2.1⟩, hW.2.2.F ht⟩) hW.2.2.2.2 hdg hlk
theorem x_aret {f0 : xhp} {sz : Nat} {C : String} (hX : xX p R s m args meth c G (xA f0 sz) cc nL own (some (.object C)) d mc ms) (hW : xW G (xA f0 sz) s f H locs) {post : Option Nat → xhp → Prop} {r : Option Nat} (h : post r f) (hdg : decode cc pc = .ok (.areturn, 1)) : W p l e R s m args below meth c H locs cells slots (MQ below (va_Qq post (xAt G f0 sz) (xA f0 sz)) args s cells slots (xA f0 sz)) (F0 m pc ls [va_rf r]) := by
  obtain ⟨hx, hb, hml, hown, hK, hr, hlk, -⟩ := hX
  exact W.aret (v := va_rf r) hx hb hr (Or.inl ⟨C, rfl⟩) (by cases r with | none => exact Or.inl rfl | some a => exact Or.inr ⟨a, rfl⟩) (fun t ht _ => ⟨⟨r, f, rfl, h, by rw [ht]; exact hW.1, hW.2.1⟩, hW.2.2.F ht⟩) hW.2.2.2.2 hdg hlk
-- calls
theorem xA_sub (hX : xX p R s m args meth c G A cc nL own ret d mc ms) (hW : xW G A s f H locs) : ∀ q, xA f H.size q → A q := by
  intro q hq
  obtain ⟨-, -, -, -, -, -, -, hA, -⟩ := hX
  rcases hq with h | h
  · exact hW.2.1 q h
  · exact hA q (Nat.le_trans hW.2.2.1 h)
theorem x_pre (hX : xX p R s m args meth c G A cc nL own ret d mc ms) (hW : xW G A s f H locs) (av : List Value) : ∀ U : State, U.heap = H → s.WarmedH U.vm → va_Pc av (xPre G f H.size) av.toArray U := by
  intro U hU hw
  have hsub := xA_sub hX hW
  obtain ⟨hx, hb, hml, hown, hK, -⟩ := hX
  refine ⟨rfl, by rw [hU], by rw [hU]; exact hW.1, hK.1.warm hw, hK.2.1.warm hw, va_K.moved hw.alike hK.2.2.1, ?_, fun q hq => vk_R.warm hw (hK.2.2.2.2.1 q hq), ?_, ?_⟩ <;> rw [hU]
  · exact vk_S.moved hw.alike ((hK.2.2.2.1.kept hW.2.2.2.1).narrow hsub)
  · exact va_Z.moved hw.alike ((hK.2.2.2.2.2.1.kept hW.2.2.2.1).narrow hsub)
  · exact va_Zq.moved hw.alike ((hK.2.2.2.2.2.2.kept hW.2.2.2.1).narrow hsub)
theorem x_recv (hX : xX p R s m args meth c G A cc nL own ret d mc ms) (hW : xW G A s f H locs) {b ci : Nat} {q : vw_C} (ho : xO f b ci) (hc : vwCl[ci]? = some q) : ∃ cell : Cell, H[b]? = some cell ∧ cell.vm.isStatics = false ∧ s.vm.findClass q.1 = some cell.cls := by
  obtain ⟨fs, h1⟩ := ho
  obtain ⟨hx, hb, hml, hown, hK, -⟩ := hX
  obtain ⟨L, q0, hno, hd, hP, hq, ha⟩ := hW.1.place h1
  exact va_recv hK.2.2.1 hP hc hq
variable {mc' ms' : Nat}
theorem x_calli (hX : xX p R s m args meth c G A cc nL own ret d mc ms) (hW : xW G A s f H locs) {post : Int32 → xhp → Prop} {st0 : List Value} {a : Array Value} (hr : va_Run p l e R s m args below meth c H locs cells slots mc' ms' (F0 m pc ls st0) rest (va_Qi post (xAt G f H.size) (xA f H.size) a) (xA f H.size))
    (kk : ∀ (r : Int32) (f1 : xhp) (H1 : Heap) (locs1 : List Loc), post r f1 → xW G A s f1 H1 locs1 → W p l e R s m args below meth c H1 locs1 (cells + mc') (slots + ms') Q (F0 m (pc + 3) ls (.int r :: rest))) : W p l e R s m args below meth c H locs cells slots Q (F0 m pc ls st0) := by
  have hsub := xA_sub hX hW
  exact va_calli hr hW.2.2 (fun q _ h => hsub q h) hsub (fun r u t H1 locs1 ht hvm hp hB hz hk hS => kk r u H1 locs1 hp ⟨by rw [← ht]; exact hB.1, fun a h => hsub a (hB.2 a h), hS⟩)
theorem x_calll (hX : xX p R s m args meth c G A cc nL own ret d mc ms) (hW : xW G A s f H locs) {post : Int64 → xhp → Prop} {st0 : List Value} {a : Array Value} (hr : va_Run p l e R s m args below meth c H locs cells slots mc' ms' (F0 m pc ls st0) rest (va_Ql post (xAt G f H.size) (xA f H.size) a) (xA f H.size))
    (kk : ∀ (r : Int64) (f1 : xhp) (H1 : Heap) (locs1 : List Loc), post r f1 → xW G A s f1 H1 locs1 → W p l e R s m args below meth c H1 locs1 (cells + mc') (slots + ms') Q (F0 m (pc + 3) ls (.long r :: rest))) : W p l e R s m args below meth c H locs cells slots Q (F0 m pc ls st0) := by
  have hsub := xA_sub hX hW
  exact va_calll hr hW.2.2 (fun q _ h => hsub q h) hsub (fun r u t H1 locs1 ht hvm hp hB hz hk hS => kk r u H1 locs1 hp ⟨by rw [← ht]; exact hB.1, fun a h => hsub a (hB.2 a h), hS⟩)
theorem x_callv (hX : xX p R s m args meth c G A cc nL own ret d mc ms) (hW : xW G A s f H locs) {post : xhp → Prop} {st0 : List Value} {a : Array Value} (hr : va_Run p l e R s m args below meth c H locs cells slots mc' ms' (F0 m pc ls st0) rest (va_Qv post (xAt G f H.size) (xA f H.size) a) (xA f H.size))
    (kk : ∀ (f1 : xhp) (H1 : Heap) (locs1 : List Loc), post f1 → xW G A s f1 H1 locs1 → W p l e R s m args below meth c H1 locs1 (cells + mc') (slots + ms') Q (F0 m (pc + 3) ls rest)) : W p l e R s m args below meth c H locs cells slots Q (F0 m pc ls st0) := by
  have hsub := xA_sub hX hW
  exact va_callv hr hW.2.2 (fun q _ h => hsub q h) hsub (fun u t H1 locs1 ht hvm hp hB hz hk hS => kk u H1 locs1 hp ⟨by rw [← ht]; exact hB.1, fun a h => hsub a (hB.2 a h), hS⟩)
theorem x_callq (hX : xX p R s m args meth c G A cc nL own ret d mc ms) (hW : xW G A s f H locs) {post : Option Nat → xhp → Prop} {st0 : List Value} {a : Array Value} (hr : va_Run p l e R s m args below meth c H locs cells slots mc' ms' (F0 m pc ls st0) rest (va_Qq post (xAt G f H.size) (xA f H.size) a) (xA f H.size))
    (kk : ∀ (r : Option Nat) (f1 : xhp) (H1 : Heap) (locs1 : List Loc), post r f1 → xW G A s f1 H1 locs1 → W p l e R s m args below meth c H1 locs1 (cells + mc') (slots + ms') Q (F0 m (pc + 3) ls (va_rf r :: rest))) : W p l e R s m args below meth c H locs cells slots Q (F0 m pc ls st0) := by
  have hsub := xA_sub hX hW
  exact va_callq hr hW.2.2 (fun q _ h => hsub q h) hsub (fun r u t H1 locs1 ht hvm hp hB hz hk hS => kk r u H1 locs1 hp ⟨by rw [← ht]; exact hB.1, fun a h => hsub a (hB.2 a h), hS⟩)
variable {y : MethodName} {bytes : ByteArray} {maxL d' index n : Nat} {ret' : Option FieldType} {As st0 : List Value} {Qc : Array Value → State → Outcome → State → Prop}
theorem x_ws (hK : xWd s) (hcode : Cond.code y bytes maxL ret' ∈ lw_tbl) : ∀ w ∈ [Cond.code y bytes maxL ret'], ∀ (a' : Array Value) (U : State), s.WarmedH U.vm → w.before a' U = true := by
  intro w hw a' U hWm
  rw [List.mem_singleton] at hw
  subst hw
  exact (hK.warm hWm) _ hcode rfl rfl a'
theorem x_runV {C : String} {T : u_T} {N b ci : Nat} (hX : xX p R s m args meth c G A cc nL own ret d mc ms) (hW : xW G A s f H locs) (hM : Met l y [.code y bytes maxL ret'] (xrm d' mc' ms') (va_Pc (.ref b :: As) (xPre G f H.size)) Qc mc' ms' (xA f H.size)) (ho : xO f b ci) (hc : vwCl[ci]? = some (C, T, N)) (hl : Cond.methodLink own index y ∈ lw_tbl) (hi : Cond.instanceMethod y ∈ lw_tbl) (hsel : Cond.selects C y y ∈ lw_tbl) (hini : Cond.initialized y.cls ∈ lw_tbl) (hcode : Cond.code y bytes maxL ret' ∈ lw_tbl) (hy : xY y n) (hdd : d' + 1 ≤ d) (hmx : maxL ≤ 21) (hn : As.length = n) (hls : ls.size = nL) (hst : st0 = As.reverse ++ .ref b :: rest) (h8 : (rest.map fun v => v.category).sum ≤ 8) (hdg : decode cc pc = .ok (.invokevirtual index, 3)) (hcs : cells + mc' ≤ R.cells ∧ slots + ms' ≤ R.slots) :
    va_Run p l e R s m args below meth c H locs cells slots mc' ms' (F0 m pc ls st0) rest (Qc (Value.ref b :: As).toArray) (xA f H.size) := by
  have hpre := x_pre hX hW (.ref b :: As)
  have hrecv := x_recv hX hW ho hc
  obtain ⟨hx, hb, hml, hown, hK, hr, hlk, hA, hR1, hR2, -⟩ := hX
  exact va_runV (Ts := []) ⟨hx, hb, hml, hown, fun w h => by cases h⟩ hM ⟨⟨rfl, rfl, by show d' + 1 ≤ R.frames; omega, by show 8 + (maxL + 11) + 40 * d' ≤ R.locals; omega, x_ws hK.1 hcode, List.mem_cons_self, hK.1 _ hcode rfl rfl _, hK.1 _ hini rfl rfl _, hy.1, xY_n hy, hK.1 _ hl rfl rfl _⟩, hK.1 _ hi rfl rfl _, hK.1 _ hsel rfl rfl _⟩ ⟨xPre.blind _ _ _ _, hrecv, hpre⟩ rfl hn hls hst (lv_room h8) hdg hcs
theorem x_runS (hX : xX p R s m args meth c G A cc nL own ret d mc ms) (hW : xW G A s f H locs) (hM : Met l y [.code y bytes maxL ret'] (xrm d' mc' ms') (va_Pc As (xPre G f H.size)) Qc mc' ms' (xA f H.size)) (hl : Cond.methodLink own index y ∈ lw_tbl) (hi : Cond.static y ∈ lw_tbl) (hini : Cond.initialized y.cls ∈ lw_tbl) (hcode : Cond.code y bytes maxL ret' ∈ lw_tbl) (hy : xY y n) (hdd : d' + 1 ≤ d) (hmx : maxL ≤ 21) (hn : As.length = n) (hls : ls.size = nL) (hst : st0 = As.reverse ++ rest) (h8 : (rest.map fun v => v.category).sum ≤ 8) (hdg : decode cc pc = .ok (.invokestatic index, 3)) (hcs : cells + mc' ≤ R.cells ∧ slots + ms' ≤ R.slots) :
    va_Run p l e R s m args below meth c H locs cells slots mc' ms' (F0 m pc ls st0) rest (Qc As.toArray) (xA f H.size) := by
  have hpre := x_pre hX hW As
  obtain ⟨hx, hb, hml, hown, hK, hr, hlk, hA, hR1, hR2, -⟩ := hX
  exact va_runS (Ts := []) ⟨hx, hb, hml, hown, fun w h => by cases h⟩ hM ⟨⟨rfl, rfl, by show d' + 1 ≤ R.frames; omega, by show 8 + (maxL + 11) + 40 * d' ≤ R.locals; omega, x_ws hK.1 hcode, List.mem_cons_self, hK.1 _ hcode rfl rfl _, hK.1 _ hini rfl rfl _, hy.1, xY_n hy, hK.1 _ hl rfl rfl _⟩, hK.1 _ hi rfl rfl _⟩ ⟨xPre.blind _ _ _ _, hpre⟩ rfl hn hls hst (lv_room h8) hdg hcs
theorem x_runSN {host : String} (hX : xX p R s m args meth c G A cc nL own ret d mc ms) (hW : xW G A s f H locs) (hM : Met l y [.code y bytes maxL ret'] (xrm d' mc' ms') (va_Pc As (xPre G f H.size)) Qc mc' ms' (xA f H.size)) (hl : Cond.methodLinkNest own index y host ∈ lw_tbl) (hi : Cond.static y ∈ lw_tbl) (hini : Cond.initialized y.cls ∈ lw_tbl) (hcode : Cond.code y bytes maxL ret' ∈ lw_tbl) (hy : xY y n) (hdd : d' + 1 ≤ d) (hmx : maxL ≤ 21) (hn : As.length = n) (hls : ls.size = nL) (hst : st0 = As.reverse ++ rest) (h8 : (rest.map fun v => v.category).sum ≤ 8) (hdg : decode cc pc = .ok (.invokestatic index, 3)) (hcs : cells + mc' ≤ R.cells ∧ slots + ms' ≤ R.slots) :
    va_Run p l e R s m args below meth c H locs cells slots mc' ms' (F0 m pc ls st0) rest (Qc As.toArray) (xA f H.size) := by
  have hpre := x_pre hX hW As
  obtain ⟨hx, hb, hml, hown, hK, hr, hlk, hA, hR1, hR2, -⟩ := hX
  exact va_runSN (Ts := []) ⟨hx, hb, hml, hown, fun w h => by cases h⟩ hM ⟨⟨⟨rfl, rfl, by show d' + 1 ≤ R.frames; omega, by show 8 + (maxL + 11) + 40 * d' ≤ R.locals; omega, x_ws hK.1 hcode, List.mem_cons_self⟩, hK.1 _ hcode rfl rfl _, hK.1 _ hini rfl rfl _, hy.1, xY_n hy, hK.1 _ hl rfl rfl _⟩, hK.1 _ hi rfl rfl _, trivial⟩ ⟨xPre.blind _ _ _ _, hpre⟩ rfl hn hls hst (lv_room h8) hdg hcs
theorem x_runI {b : Nat} (hX : xX p R s m args meth c G A cc nL own ret d mc ms) (hW : xW G A s f H locs) (hM : Met l y [.code y bytes maxL none] (xrm d' mc' ms') (va_Pc (.ref b :: As) (xPre G f H.size)) Qc mc' ms' (xA f H.size)) (hl : Cond.methodLink own index y ∈ lw_tbl) (hi : Cond.instanceMethod y ∈ lw_tbl) (hini : Cond.initialized y.cls ∈ lw_tbl) (hcode : Cond.code y bytes maxL none ∈ lw_tbl) (hy1 : y.name = "<init>") (hy : xY y n) (hdd : d' + 1 ≤ d) (hmx : maxL ≤ 21) (hn : As.length = n) (hls : ls.size = nL) (hst : st0 = As.reverse ++ .ref b :: rest) (h8 : (rest.map fun v => v.category).sum ≤ 8) (hdg : decode cc pc = .ok (.invokespecial index, 3)) (hcs : cells + mc' ≤ R.cells ∧ slots + ms' ≤ R.slots) :
    va_Run p l e R s m args below meth c H locs cells slots mc' ms' (F0 m pc ls st0) rest (Qc (Value.ref b :: As).toArray) (xA f H.size) := by
  have hpre := x_pre hX hW (.ref b :: As)
  obtain ⟨hx, hb, hml, hown, hK, hr, hlk, hA, hR1, hR2, -⟩ := hX
  exact va_runI (Ts := []) ⟨hx, hb, hml, hown, fun w h => by cases h⟩ hM ⟨⟨rfl, rfl, by show d' + 1 ≤ R.frames; omega, by show 8 + (maxL + 11) + 40 * d' ≤ R.locals; omega, x_ws hK.1 hcode, List.mem_cons_self, hK.1 _ hcode rfl rfl _, hK.1 _ hini rfl rfl _, hy.1, xY_n hy, hK.1 _ hl rfl rfl _⟩, hy1, hK.1 _ hi rfl rfl _⟩ ⟨xPre.blind _ _ _ _, hpre⟩ rfl hn hls hst (lv_room h8) hdg hcs
theorem x_runIN {b : Nat} {host : String} (hX : xX p R s m args meth c G A cc nL own ret d mc ms) (hW : xW G A s f H locs) (hM : Met l y [.code y bytes maxL none] (xrm d' mc' ms') (va_Pc (.ref b :: As) (xPre G f H.size)) Qc mc' ms' (xA f H.size)) (hl : Cond.methodLinkNest own index y host ∈ lw_tbl) (hi : Cond.instanceMethod y ∈ lw_tbl) (hini : Cond.initialized y.cls ∈ lw_tbl) (hcode : Cond.code y bytes maxL none ∈ lw_tbl) (hy1 : y.name = "<init>") (hy : xY y n) (hdd : d' + 1 ≤ d) (hmx : maxL ≤ 21) (hn : As.length = n) (hls : ls.size = nL) (hst : st0 = As.reverse ++ .ref b :: rest) (h8 : (rest.map fun v => v.category).sum ≤ 8) (hdg : decode cc pc = .ok (.invokespecial index, 3)) (hcs : cells + mc' ≤ R.cells ∧ slots + ms' ≤ R.slots) :
    va_Run p l e R s m args below meth c H locs cells slots mc' ms' (F0 m pc ls st0) rest (Qc (Value.ref b :: As).toArray) (xA f H.size) := by
  have hpre := x_pre hX hW (.ref b :: As)
  obtain ⟨hx, hb, hml, hown, hK, hr, hlk, hA, hR1, hR2, -⟩ := hX
  exact va_runIN (Ts := []) ⟨hx, hb, hml, hown, fun w h => by cases h⟩ hM ⟨⟨⟨rfl, rfl, by show d' + 1 ≤ R.frames; omega, by show 8 + (maxL + 11) + 40 * d' ≤ R.locals; omega, x_ws hK.1 hcode, List.mem_cons_self⟩, hK.1 _ hcode rfl rfl _, hK.1 _ hini rfl rfl _, hy.1, xY_n hy, hK.1 _ hl rfl rfl _⟩, hy1, hK.1 _ hi rfl rfl _⟩ ⟨xPre.blind _ _ _ _, hpre⟩ rfl hn hls hst (lv_room h8) hdg hcs
theorem x_max (hX : xX p R s m args meth c G A cc nL own ret d mc ms) {x y : Int32} (hd : 1 ≤ d) (hl : Cond.methodLink own index ⟨"java/lang/Math", "max", "(II)I"⟩ ∈ lw_tbl) (hls : ls.size = nL) (h8 : (rest.map fun v => v.category).sum ≤ 8) (hcs : cells ≤ R.cells ∧ slots ≤ R.slots) (hdg : decode cc pc = .ok (.invokestatic index, 3))
    (kk : W p l e R s m args below meth c H locs cells slots Q (F0 m (pc + 3) ls (.int (if x < y then y else x) :: rest))) : W p l e R s m args below meth c H locs cells slots Q (F0 m pc ls (.int y :: .int x :: rest)) := by
  obtain ⟨hx, hb, hml, hown, hK, hr, hlk, hA, hR1, hR2, -⟩ := hX
  exact va_mmax hx hb (by rw [hml, hls]) hown (hK.1 _ hl rfl rfl _) (hK.1 _ kx_max_static rfl rfl _) (hK.1 _ kx_max_init rfl rfl _) (hK.1 _ kx_max_code rfl rfl _) (by omega) (by omega) hcs.1 hcs.2 hdg kk
theorem x_min (hX : xX p R s m args meth c G A cc nL own ret d mc ms) {x y : Int32} (hd : 1 ≤ d) (hl : Cond.methodLink own index ⟨"java/lang/Math", "min", "(II)I"⟩ ∈ lw_tbl) (hls : ls.size = nL) (h8 : (rest.map fun v => v.category).sum ≤ 8) (hcs : cells ≤ R.cells ∧ slots ≤ R.slots) (hdg : decode cc pc = .ok (.invokestatic index, 3))
    (kk : W p l e R s m args below meth c H locs cells slots Q (F0 m (pc + 3) ls (.int (if y < x then y else x) :: rest))) : W p l e R s m args below meth c H locs cells slots Q (F0 m pc ls (.int y :: .int x :: rest)) := by
  obtain ⟨hx, hb, hml, hown, hK, hr, hlk, hA, hR1, hR2, -⟩ := hX
  exact va_mmin hx hb (by rw [hml, hls]) hown (hK.1 _ hl rfl rfl _) (hK.1 _ kx_min_static rfl rfl _) (hK.1 _ kx_max_init rfl rfl _) (hK.1 _ kx_min_code rfl rfl _) (by omega) (by omega) hcs.1 hcs.2 hdg kk
theorem x_ldcS (hX : xX p R s m args meth c G A cc nL own ret d mc ms) {tx : String} {i : Nat} (hq : (own, index, tx, i) ∈ xstr) (hdg : decode cc pc = .ok (.ldc index, 2))
    (kk : W p l e R s m args below meth c H locs cells slots Q (F0 m (pc + 2) ls (.ref (G.2.2.1 i) :: rest))) : W p l e R s m args below meth c H locs cells slots Q (F0 m pc ls rest) := by
  obtain ⟨hx, hb, hml, hown, hK, -⟩ := hX
  exact va_ldcS hx hb hown (hK.2.2.2.2.1 _ hq) hdg kk
theorem x_objInit (hX : xX p R s m args meth c G A cc nL own ret d mc ms) {a : Nat} (hd : 1 ≤ d) (hl : Cond.methodLink own index objectInit ∈ lw_tbl) (hls : ls.size = nL) (h8 : (rest.map fun v => v.category).sum ≤ 8) (hdg : decode cc pc = .ok (.invokespecial index, 3))
    (kk : W p l e R s m args below meth c H locs cells slots Q (F0 m (pc + 3) ls rest)) : W p l e R s m args below meth c H locs cells slots Q (F0 m pc ls (.ref a :: rest)) := by
  obtain ⟨hx, hb, hml, hown, hK, hr, hlk, hA, hR1, hR2, -⟩ := hX
  exact W.objInit hx hb hown (hK.1 _ hl rfl rfl _) (hK.1 _ kx_obj_inst rfl rfl _) (hK.1 _ kx_obj_code rfl rfl _) rfl (by rw [hml]; exact hls) rfl hdg (by omega) (by show 2 * 0 + (rest.map fun v => v.category).sum + 12 ≤ R.locals; omega) kk
end XE
section XN
variable {p : Program} {l : Launch} {e : Env} {R : Room} {s : State} {m : MethodId} {args : Array Value} {below : List Frame} {meth : Method} {c : Code} {H : Heap} {locs : List Loc} {cells slots : Nat} {Q : State → Prop}
variable {cc : ByteArray} {pc : Nat} {ls : Array Slot} {rest : List Value} {G : xG} {A : Nat → Prop} {f : xhp} {nL d mc ms : Nat} {own : String} {ret : Option FieldType} {index : Nat}
/-- the pool with a cell more -/
theorem xHP.more {H1 : Heap} {L : List Nat} {q : Nat} {x : xE} (hn : L.Nodup) (hd : ∀ a, a ∈ L ↔ (f a).isSome = true) (hP : va_P G.1 vwCl (va_pl L (xg G.2.1 f) ++ [(q, xtr G.2.1 x)]) H1) (hD : va_D A (va_pl L (xg G.2.1 f) ++ [(q, xtr G.2.1 x)])) : f q = none ∧ xHP G (xup f q x) H1 ∧ A q := by
  have hq : q ∉ L := by
    intro hm
    obtain ⟨k, hk⟩ := va_pl_get (X := []) (f := xg G.2.1 f) hm
    simp only [List.nil_append] at hk
    have hlt := (List.getElem?_eq_some_iff.mp hk).1
    have h1 : (va_pl L (xg G.2.1 f) ++ [(q, xtr G.2.1 x)])[k]? = some (q, xg G.2.1 f q) := by rw [List.getElem?_append_left hlt]; exact hk
    have h2 : (va_pl L (xg G.2.1 f) ++ [(q, xtr G.2.1 x)])[(va_pl L (xg G.2.1 f)).length]? = some (q, xtr G.2.1 x) := by simp
    have := hD.1 _ _ _ _ h1 h2 rfl
    omega
  have hnone : f q = none := by
    cases hf : f q with
    | none => rfl
    | some z => exact absurd ((hd q).mpr (by rw [hf]; rfl)) hq
  refine ⟨hnone, ⟨L ++ [q], ?_, fun a => ?_, ?_⟩, ?_⟩
  · rw [List.nodup_append]
    exact ⟨hn, by simp, fun a ha b hb e => by rw [List.mem_singleton] at hb; subst hb; subst e; exact hq ha⟩
  · by_cases ha : a = q
    · subst ha; simp [xup]
    · rw [xup_ne _ _ ha]; simp [ha, hd a]
  · rw [xg_up, ← va_pl_push hq]; exact hP
  · exact hD.2 (va_pl L (xg G.2.1 f)).length (q, xtr G.2.1 x) (by simp)
theorem xA_more {q : Nat} {x : xE} (hq : A q) (h : ∀ a, (f a).isSome = true → A a) : ∀ a, (xup f q x a).isSome = true → A a := by
  intro a ha
  by_cases e : a = q
  · subst e; exact hq
  · rw [xup_ne _ _ e] at ha; exact h a ha
theorem x_new (hX : xX p R s m args meth c G A cc nL own ret d mc ms) (hW : xW G A s f H locs) {C : String} {T : u_T} {N ci : Nat} (hin : ∀ w ∈ u_ws C T N, w ∈ lw_tbl ∧ w.onTables = true ∧ w.keepsH = true) (ty : Nat → FieldType) (hty : ∀ k, k < N → parseFieldDescriptor (T k).2.2.1 = some (ty k)) (hc : vwCl[ci]? = some (C, T, N)) (hl : Cond.classLink own index C ∈ lw_tbl) (hi : Cond.instantiable C N ∈ lw_tbl) (hini : Cond.initialized C ∈ lw_tbl) {fs : List Value} (hfs : ∀ j, j < N → defaultValue (ty j) = vp_V fs j) (hc9 : cells + 1 ≤ mc) (hs9 : slots + N ≤ ms) (hdg : decode cc pc = .ok (.new index, 3))
    (kk : ∀ (q : Nat) (f1 : xhp) (H1 : Heap), f q = none → f1 = xup f q (.inr (ci, fs)) → xW G A s f1 H1 locs → W p l e R s m args below meth c H1 locs (cells + 1) (slots + N) Q (F0 m (pc + 3) ls (.ref q :: rest))) : W p l e R s m args below meth c H locs cells slots Q (F0 m pc ls rest) := by
  obtain ⟨hx, hb, hml, hown, hK, hr, hlk, hA, hR1, hR2, hmc, hms⟩ := hX
  obtain ⟨⟨L, hno, hd, hP⟩, hdm, hS⟩ := hW
  have hD : va_D A (va_pl L (xg G.2.1 f)) := xpl_D hno (fun b hb2 => hdm b ((hd b).mp hb2))
  refine va_new (Ts := u_ws C T N) hx hb (fun w hw => hK.1 w (hin w hw).1 (hin w hw).2.1 (hin w hw).2.2 _) (fun _ h => h) ty hty hown (hK.1 _ hl rfl rfl _) (hK.1 _ hi rfl rfl _) (hK.1 _ hini rfl rfl _) hK.2.2.1 hP hD hS hA hc hfs (by omega) (by omega) hdg (fun q H1 hP1 hD1 hS1 => ?_)
  obtain ⟨h1, h2, h3⟩ := xHP.more (x := .inr (ci, fs)) hno hd hP1 hD1
  exact kk q _ H1 h1 rfl ⟨h2, xA_more h3 hdm, hS1⟩
theorem x_newa (t : Nat) (hX : xX p R s m args meth c G A cc nL own ret d mc ms) (hW : xW G A s f H locs) {at0 : ArrayType} {ty : FieldType} (hty : newarray.typeOf at0 = ty) (htm : ty ∈ [FieldType.int, FieldType.byte, FieldType.long]) (htt : (xTY G.2.1)[t]? = some (G.2.1 t, ty)) {n : Int32} {N : Nat} {b : xbd} (hcell : ∀ cA : ClassId, vp_cell cA (N, b) = arrV cA N (fun _ => defaultValue ty)) (hN : N < 2 ^ 20) (hn : n = nI N) (hc9 : cells + 1 ≤ mc) (hs9 : slots + N ≤ ms) (hdg : decode cc pc = .ok (.newarray at0, 2))
    (kk : ∀ (q : Nat) (f1 : xhp) (H1 : Heap), f q = none → f1 = xup f q (.inl (t, N, b)) → xW G A s f1 H1 locs → W p l e R s m args below meth c H1 locs (cells + 1) (slots + N) Q (F0 m (pc + 2) ls (.ref q :: rest))) : W p l e R s m args below meth c H locs cells slots Q (F0 m pc ls (.int n :: rest)) := by
  obtain ⟨hx, hb, hml, hown, hK, hr, hlk, hA, hR1, hR2, hmc, hms⟩ := hX
  obtain ⟨⟨L, hno, hd, hP⟩, hdm, hS⟩ := hW
  have hD : va_D A (va_pl L (xg G.2.1 f)) := xpl_D hno (fun b hb2 => hdm b ((hd b).mp hb2))
  have h8 : componentBytes ty ≤ 8 := by
    simp only [List.mem_cons, List.mem_nil_iff, or_false] at htm
    rcases htm with h | h | h <;> rw [h] <;> decide
  refine va_newa hx hb (hK.2.1.1 _ (by rw [hty]; exact htm) _) hty hK.2.2.1 hP hD hS hA (a0 := (N, b)) hcell (by rw [hn]; exact nI_pos (by omega)) (by rw [hn]; exact nI_clamp (by omega)) (Nat.le_trans (Nat.mul_le_mul (Nat.le_of_lt hN) h8) (by decide)) (by omega) (by omega) hdg (fun q cA H1 hK1 hP1 hD1 hS1 => ?_)
  have e1 : cA = G.2.1 t := by
    have h1 := (hK1.2 5 (cA, ty) (by simp [xTY])).2
    have h2 := (hK.2.2.1.2 t _ htt).2
    simp only [List.mem_cons, List.mem_nil_iff, or_false] at htm
    rcases htm with h | h | h <;> subst h <;> exact Option.some.inj ((show s.vm.findClass _ = some cA from h1).symm.trans h2)
  rw [e1] at hP1 hD1
  obtain ⟨h1, h2, h3⟩ := xHP.more (x := .inl (t, N, b)) hno hd hP1 hD1
  exact kk q _ H1 h1 rfl ⟨h2, xA_more h3 hdm, hS1⟩
theorem x_newq (t : Nat) (hX : xX p R s m args meth c G A cc nL own ret d mc ms) (hW : xW G A s f H locs) {C : String} (hao : va_AO C s) (hl : Cond.classLink own index C ∈ lw_tbl) (htt : (xTY G.2.1)[t]? = some (G.2.1 t, .object C)) {n : Int32} {N : Nat} (hN : N < 2 ^ 20) (hn : n = nI N) (hc9 : cells + 1 ≤ mc) (hs9 : slots + N ≤ ms) (hdg : decode cc pc = .ok (.anewarray index, 3))
    (kk : ∀ (q : Nat) (f1 : xhp) (H1 : Heap), f q = none → f1 = xup f q (.inl (t, N, xbR (fun _ => none))) → xW G A s f1 H1 locs → W p l e R s m args below meth c H1 locs (cells + 1) (slots + N) Q (F0 m (pc + 3) ls (.ref q :: rest))) : W p l e R s m args below meth c H locs cells slots Q (F0 m pc ls (.int n :: rest)) := by
  obtain ⟨hx, hb, hml, hown, hK, hr, hlk, hA, hR1, hR2, hmc, hms⟩ := hX
  obtain ⟨⟨L, hno, hd, hP⟩, hdm, hS⟩ := hW
  have hD : va_D A (va_pl L (xg G.2.1 f)) := xpl_D hno (fun b hb2 => hdm b ((hd b).mp hb2))
  refine va_newq (N' := N) hx hb hown (hK.1 _ hl rfl rfl _) hao hK.2.2.1 hP hD hS hA (by rw [hn]; exact nI_pos (by omega)) (by rw [hn]; exact nI_clamp (by omega)) (by omega) (by omega) (by omega) hdg (fun q cA H1 hK1 hP1 hD1 hS1 => ?_)
  have e1 : cA = G.2.1 t := by
    obtain ⟨-, -, -, -, -, h1⟩ := (hK1.2 5 (cA, .object C) (by simp [xTY])).2
    obtain ⟨-, -, -, -, -, h2⟩ := (hK.2.2.1.2 t _ htt).2
    exact Option.some.inj (h1.symm.trans h2)
  rw [e1] at hP1 hD1
  obtain ⟨h1, h2, h3⟩ := xHP.more (x := .inl (t, N, xbR (fun _ => none))) hno hd hP1 hD1
  exact kk q _ H1 h1 rfl ⟨h2, xA_more h3 hdm, hS1⟩
end XN
section XM
variable {l : Launch} {G : xG} {y : MethodName} {cc : ByteArray} {nL d mc ms : Nat} {ret : Option FieldType} {av : List Value} {f : xhp}
/-- a method's contract out of the walk of its body -/
theorem x_met {Qc : Nat → Array Value → State → Outcome → State → Prop} (hy : plainName y.cls = true) (hsl : (lg_sl av).length ≤ nL)
    (body : ∀ (sz : Nat) (p : Program) (e : Env) (s : State) (m : MethodId) (below : List Frame) (meth : Method) (c : Code) (ls : Array Slot), meth.name = y.name → xX p (xrm d mc ms) s m av.toArray meth c G (xA f sz) cc nL y.cls ret d mc ms → lv_has ls nL (lv_args 0 av) → xW G (xA f sz) s f s.heap [] → W p l e (xrm d mc ms) s m av.toArray below meth c s.heap [] 0 0 (MQ below (Qc sz) av.toArray s mc ms (xA f sz)) (F0 m 0 ls [])) :
    ∀ sz, Met l y [.code y cc nL ret] (xrm d mc ms) (va_Pc av (xPre G f sz)) (Qc sz) mc ms (xA f sz) := by
  intro sz
  refine Met.ofW (cc := cc) (maxL := nL) (ret := ret) hy rfl ?_
  intro p e s m args below meth c s₁ B hml hv
  obtain ⟨rfl, hsz, hP, hK⟩ := hv
  have hl := lv_entry av (n := nL) hsl
  rw [lg_entry_eq]
  generalize (lg_sl av ++ List.replicate (nL - (lg_sl av).length) Slot.unset).toArray = ls at hl ⊢
  subst hsz
  exact body _ p e s m below meth c ls (name_of_methodNamed B.named B.method).1 ⟨B.exec, B.bytes, hml, findClass_of_methodNamed B.named, hK, B.returns, B.notSynchronized, fun q h => Or.inr h, Nat.le_refl _, Nat.le_refl _, rfl, rfl⟩ hl ⟨hP, fun a h => Or.inl h, va_S.rf⟩
end XM
end
