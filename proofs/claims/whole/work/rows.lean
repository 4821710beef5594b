section
-- ===== PART A: goes FIRST, ahead of the names: the tables' words, and 'selects' of the private methods out of them =====
/-- a private method of a class that the tables say can be made, by its rows of tables_1 -/
def lw_okq (q : MethodName × Nat) : Prop := (q.1.cls ≠ "java/lang/invoke/MethodHandle" ∧ q.1.cls ≠ "java/lang/invoke/VarHandle") ∧ Cond.instantiable q.1.cls q.2 ∈ tables_1 ∧ Cond.privateMethod q.1 ∈ tables_1 ∧ Cond.instanceMethod q.1 ∈ tables_1
theorem lw_p0 : lw_okq (⟨"ChiefCircles$World", "regroup", "(LChiefCircles$Member;I)V"⟩, 9) := ⟨⟨by decide +kernel, by decide +kernel⟩, List.mem_of_getElem? (i := 98) (by decide +kernel), List.mem_of_getElem? (i := 321) (by decide +kernel), List.mem_of_getElem? (i := 322) (by decide +kernel)⟩
theorem lw_p1 : lw_okq (⟨"ChiefCircles$World", "await", "(LChiefCircles$Member;II)V"⟩, 9) := ⟨⟨by decide +kernel, by decide +kernel⟩, List.mem_of_getElem? (i := 98) (by decide +kernel), List.mem_of_getElem? (i := 333) (by decide +kernel), List.mem_of_getElem? (i := 334) (by decide +kernel)⟩
theorem lw_p2 : lw_okq (⟨"ChiefCircles", "feedNumber", "(I)V"⟩, 11) := ⟨⟨by decide +kernel, by decide +kernel⟩, List.mem_of_getElem? (i := 25) (by decide +kernel), List.mem_of_getElem? (i := 375) (by decide +kernel), List.mem_of_getElem? (i := 376) (by decide +kernel)⟩
theorem lw_p3 : lw_okq (⟨"ChiefCircles", "keepPast", "()V"⟩, 11) := ⟨⟨by decide +kernel, by decide +kernel⟩, List.mem_of_getElem? (i := 25) (by decide +kernel), List.mem_of_getElem? (i := 387) (by decide +kernel), List.mem_of_getElem? (i := 388) (by decide +kernel)⟩
theorem lw_p4 : lw_okq (⟨"ChiefCircles$World", "arrives", "(I)Z"⟩, 9) := ⟨⟨by decide +kernel, by decide +kernel⟩, List.mem_of_getElem? (i := 98) (by decide +kernel), List.mem_of_getElem? (i := 436) (by decide +kernel), List.mem_of_getElem? (i := 437) (by decide +kernel)⟩
theorem lw_p5 : lw_okq (⟨"ChiefCircles$World", "handle", "(I)V"⟩, 9) := ⟨⟨by decide +kernel, by decide +kernel⟩, List.mem_of_getElem? (i := 98) (by decide +kernel), List.mem_of_getElem? (i := 440) (by decide +kernel), List.mem_of_getElem? (i := 441) (by decide +kernel)⟩
theorem lw_p6 : lw_okq (⟨"ChiefCircles$World", "onAsk", "(LChiefCircles$Member;II)V"⟩, 9) := ⟨⟨by decide +kernel, by decide +kernel⟩, List.mem_of_getElem? (i := 98) (by decide +kernel), List.mem_of_getElem? (i := 444) (by decide +kernel), List.mem_of_getElem? (i := 445) (by decide +kernel)⟩
theorem lw_p7 : lw_okq (⟨"ChiefCircles$World", "send", "(LChiefCircles$Member;IIII)V"⟩, 9) := ⟨⟨by decide +kernel, by decide +kernel⟩, List.mem_of_getElem? (i := 98) (by decide +kernel), List.mem_of_getElem? (i := 449) (by decide +kernel), List.mem_of_getElem? (i := 450) (by decide +kernel)⟩
theorem lw_p8 : lw_okq (⟨"ChiefCircles$World", "onThere", "(LChiefCircles$Member;II)V"⟩, 9) := ⟨⟨by decide +kernel, by decide +kernel⟩, List.mem_of_getElem? (i := 98) (by decide +kernel), List.mem_of_getElem? (i := 457) (by decide +kernel), List.mem_of_getElem? (i := 458) (by decide +kernel)⟩
theorem lw_p9 : lw_okq (⟨"ChiefCircles$World", "onYes", "(LChiefCircles$Member;II)V"⟩, 9) := ⟨⟨by decide +kernel, by decide +kernel⟩, List.mem_of_getElem? (i := 98) (by decide +kernel), List.mem_of_getElem? (i := 461) (by decide +kernel), List.mem_of_getElem? (i := 462) (by decide +kernel)⟩
theorem lw_p10 : lw_okq (⟨"ChiefCircles$World", "onInvite", "(LChiefCircles$Member;II)V"⟩, 9) := ⟨⟨by decide +kernel, by decide +kernel⟩, List.mem_of_getElem? (i := 98) (by decide +kernel), List.mem_of_getElem? (i := 465) (by decide +kernel), List.mem_of_getElem? (i := 466) (by decide +kernel)⟩
theorem lw_p11 : lw_okq (⟨"ChiefCircles$World", "sendToAll", "(LChiefCircles$Member;IIII)V"⟩, 9) := ⟨⟨by decide +kernel, by decide +kernel⟩, List.mem_of_getElem? (i := 98) (by decide +kernel), List.mem_of_getElem? (i := 469) (by decide +kernel), List.mem_of_getElem? (i := 470) (by decide +kernel)⟩
theorem lw_p12 : lw_okq (⟨"ChiefCircles$World", "learn", "(LChiefCircles$Member;I)V"⟩, 9) := ⟨⟨by decide +kernel, by decide +kernel⟩, List.mem_of_getElem? (i := 98) (by decide +kernel), List.mem_of_getElem? (i := 473) (by decide +kernel), List.mem_of_getElem? (i := 474) (by decide +kernel)⟩
theorem lw_p13 : lw_okq (⟨"ChiefCircles$World", "onReady", "(LChiefCircles$Member;I)V"⟩, 9) := ⟨⟨by decide +kernel, by decide +kernel⟩, List.mem_of_getElem? (i := 98) (by decide +kernel), List.mem_of_getElem? (i := 480) (by decide +kernel), List.mem_of_getElem? (i := 481) (by decide +kernel)⟩
theorem lw_p14 : lw_okq (⟨"ChiefCircles$World", "wake", "(LChiefCircles$Member;)V"⟩, 9) := ⟨⟨by decide +kernel, by decide +kernel⟩, List.mem_of_getElem? (i := 98) (by decide +kernel), List.mem_of_getElem? (i := 489) (by decide +kernel), List.mem_of_getElem? (i := 490) (by decide +kernel)⟩
theorem lw_p15 : lw_okq (⟨"ChiefCircles$World", "look", "(LChiefCircles$Member;)V"⟩, 9) := ⟨⟨by decide +kernel, by decide +kernel⟩, List.mem_of_getElem? (i := 98) (by decide +kernel), List.mem_of_getElem? (i := 493) (by decide +kernel), List.mem_of_getElem? (i := 494) (by decide +kernel)⟩
def lw_privs_1 : List (MethodName × Nat) := [(⟨"ChiefCircles$World", "regroup", "(LChiefCircles$Member;I)V"⟩, 9), (⟨"ChiefCircles$World", "await", "(LChiefCircles$Member;II)V"⟩, 9), (⟨"ChiefCircles", "feedNumber", "(I)V"⟩, 11), (⟨"ChiefCircles", "keepPast", "()V"⟩, 11), (⟨"ChiefCircles$World", "arrives", "(I)Z"⟩, 9), (⟨"ChiefCircles$World", "handle", "(I)V"⟩, 9), (⟨"ChiefCircles$World", "onAsk", "(LChiefCircles$Member;II)V"⟩, 9), (⟨"ChiefCircles$World", "send", "(LChiefCircles$Member;IIII)V"⟩, 9), (⟨"ChiefCircles$World", "onThere", "(LChiefCircles$Member;II)V"⟩, 9), (⟨"ChiefCircles$World", "onYes", "(LChiefCircles$Member;II)V"⟩, 9), (⟨"ChiefCircles$World", "onInvite", "(LChiefCircles$Member;II)V"⟩, 9), (⟨"ChiefCircles$World", "sendToAll", "(LChiefCircles$Member;IIII)V"⟩, 9), (⟨"ChiefCircles$World", "learn", "(LChiefCircles$Member;I)V"⟩, 9), (⟨"ChiefCircles$World", "onReady", "(LChiefCircles$Member;I)V"⟩, 9), (⟨"ChiefCircles$World", "wake", "(LChiefCircles$Member;)V"⟩, 9), (⟨"ChiefCircles$World", "look", "(LChiefCircles$Member;)V"⟩, 9)]
theorem lw_r1 : ∀ q ∈ lw_privs_1, lw_okq q := List.forall_mem_cons.mpr ⟨lw_p0, List.forall_mem_cons.mpr ⟨lw_p1, List.forall_mem_cons.mpr ⟨lw_p2, List.forall_mem_cons.mpr ⟨lw_p3, List.forall_mem_cons.mpr ⟨lw_p4, List.forall_mem_cons.mpr ⟨lw_p5, List.forall_mem_cons.mpr ⟨lw_p6, List.forall_mem_cons.mpr ⟨lw_p7, List.forall_mem_cons.mpr ⟨lw_p8, List.forall_mem_cons.mpr ⟨lw_p9, List.forall_mem_cons.mpr ⟨lw_p10, List.forall_mem_cons.mpr ⟨lw_p11, List.forall_mem_cons.mpr ⟨lw_p12, List.forall_mem_cons.mpr ⟨lw_p13, List.forall_mem_cons.mpr ⟨lw_p14, List.forall_mem_cons.mpr ⟨lw_p15, fun _ h => absurd h List.not_mem_nil⟩⟩⟩⟩⟩⟩⟩⟩⟩⟩⟩⟩⟩⟩⟩⟩
theorem lw_p16 : lw_okq (⟨"ChiefCircles$World", "weigh", "(LChiefCircles$Member;)V"⟩, 9) := ⟨⟨by decide +kernel, by decide +kernel⟩, List.mem_of_getElem? (i := 98) (by decide +kernel), List.mem_of_getElem? (i := 497) (by decide +kernel), List.mem_of_getElem? (i := 498) (by decide +kernel)⟩
theorem lw_p17 : lw_okq (⟨"ChiefCircles$World", "merge", "(LChiefCircles$Member;)V"⟩, 9) := ⟨⟨by decide +kernel, by decide +kernel⟩, List.mem_of_getElem? (i := 98) (by decide +kernel), List.mem_of_getElem? (i := 502) (by decide +kernel), List.mem_of_getElem? (i := 503) (by decide +kernel)⟩
theorem lw_p18 : lw_okq (⟨"ChiefCircles", "needArgument", "(Z)V"⟩, 11) := ⟨⟨by decide +kernel, by decide +kernel⟩, List.mem_of_getElem? (i := 25) (by decide +kernel), List.mem_of_getElem? (i := 535) (by decide +kernel), List.mem_of_getElem? (i := 536) (by decide +kernel)⟩
theorem lw_p19 : lw_okq (⟨"java/lang/Throwable", "fillInStackTrace", "(I)Ljava/lang/Throwable;"⟩, 6) := ⟨⟨by decide +kernel, by decide +kernel⟩, List.mem_of_getElem? (i := 577) (by decide +kernel), List.mem_of_getElem? (i := 575) (by decide +kernel), List.mem_of_getElem? (i := 576) (by decide +kernel)⟩
theorem lw_p20 : lw_okq (⟨"ChiefCircles$TextReader", "takeHead", "()Z"⟩, 9) := ⟨⟨by decide +kernel, by decide +kernel⟩, List.mem_of_getElem? (i := 33) (by decide +kernel), List.mem_of_getElem? (i := 614) (by decide +kernel), List.mem_of_getElem? (i := 615) (by decide +kernel)⟩
theorem lw_p21 : lw_okq (⟨"ChiefCircles$TextReader", "skipBlanks", "()V"⟩, 9) := ⟨⟨by decide +kernel, by decide +kernel⟩, List.mem_of_getElem? (i := 33) (by decide +kernel), List.mem_of_getElem? (i := 618) (by decide +kernel), List.mem_of_getElem? (i := 619) (by decide +kernel)⟩
theorem lw_p22 : lw_okq (⟨"ChiefCircles$TextReader", "wordEnd", "()I"⟩, 9) := ⟨⟨by decide +kernel, by decide +kernel⟩, List.mem_of_getElem? (i := 33) (by decide +kernel), List.mem_of_getElem? (i := 622) (by decide +kernel), List.mem_of_getElem? (i := 623) (by decide +kernel)⟩
theorem lw_p23 : lw_okq (⟨"ChiefCircles$TextReader", "isWord", "(Ljava/lang/String;I)Z"⟩, 9) := ⟨⟨by decide +kernel, by decide +kernel⟩, List.mem_of_getElem? (i := 33) (by decide +kernel), List.mem_of_getElem? (i := 627) (by decide +kernel), List.mem_of_getElem? (i := 628) (by decide +kernel)⟩
theorem lw_p24 : lw_okq (⟨"ChiefCircles$TextReader", "fails", "(II)Z"⟩, 9) := ⟨⟨by decide +kernel, by decide +kernel⟩, List.mem_of_getElem? (i := 33) (by decide +kernel), List.mem_of_getElem? (i := 679) (by decide +kernel), List.mem_of_getElem? (i := 680) (by decide +kernel)⟩
theorem lw_p25 : lw_okq (⟨"ChiefCircles$TextReader", "takeNumber", "(II)Z"⟩, 9) := ⟨⟨by decide +kernel, by decide +kernel⟩, List.mem_of_getElem? (i := 33) (by decide +kernel), List.mem_of_getElem? (i := 683) (by decide +kernel), List.mem_of_getElem? (i := 684) (by decide +kernel)⟩
theorem lw_p26 : lw_okq (⟨"ChiefCircles$TextReader", "isDigit", "(I)Z"⟩, 9) := ⟨⟨by decide +kernel, by decide +kernel⟩, List.mem_of_getElem? (i := 33) (by decide +kernel), List.mem_of_getElem? (i := 687) (by decide +kernel), List.mem_of_getElem? (i := 688) (by decide +kernel)⟩
theorem lw_p27 : lw_okq (⟨"ChiefCircles$TextReader", "takeEnd", "()Z"⟩, 9) := ⟨⟨by decide +kernel, by decide +kernel⟩, List.mem_of_getElem? (i := 33) (by decide +kernel), List.mem_of_getElem? (i := 692) (by decide +kernel), List.mem_of_getElem? (i := 693) (by decide +kernel)⟩
theorem lw_p28 : lw_okq (⟨"ChiefCircles$TextReader", "takeLine", "()Z"⟩, 9) := ⟨⟨by decide +kernel, by decide +kernel⟩, List.mem_of_getElem? (i := 33) (by decide +kernel), List.mem_of_getElem? (i := 696) (by decide +kernel), List.mem_of_getElem? (i := 697) (by decide +kernel)⟩
theorem lw_p29 : lw_okq (⟨"ChiefCircles$TextReader", "lineOf", "(I)I"⟩, 9) := ⟨⟨by decide +kernel, by decide +kernel⟩, List.mem_of_getElem? (i := 33) (by decide +kernel), List.mem_of_getElem? (i := 700) (by decide +kernel), List.mem_of_getElem? (i := 701) (by decide +kernel)⟩
theorem lw_p30 : lw_okq (⟨"ChiefCircles$TextReader", "takeRanks", "()Z"⟩, 9) := ⟨⟨by decide +kernel, by decide +kernel⟩, List.mem_of_getElem? (i := 33) (by decide +kernel), List.mem_of_getElem? (i := 710) (by decide +kernel), List.mem_of_getElem? (i := 711) (by decide +kernel)⟩
theorem lw_p31 : lw_okq (⟨"ChiefCircles$TextReader", "takeRule", "(I)Z"⟩, 9) := ⟨⟨by decide +kernel, by decide +kernel⟩, List.mem_of_getElem? (i := 33) (by decide +kernel), List.mem_of_getElem? (i := 714) (by decide +kernel), List.mem_of_getElem? (i := 715) (by decide +kernel)⟩
def lw_privs_2 : List (MethodName × Nat) := [(⟨"ChiefCircles$World", "weigh", "(LChiefCircles$Member;)V"⟩, 9), (⟨"ChiefCircles$World", "merge", "(LChiefCircles$Member;)V"⟩, 9), (⟨"ChiefCircles", "needArgument", "(Z)V"⟩, 11), (⟨"java/lang/Throwable", "fillInStackTrace", "(I)Ljava/lang/Throwable;"⟩, 6), (⟨"ChiefCircles$TextReader", "takeHead", "()Z"⟩, 9), (⟨"ChiefCircles$TextReader", "skipBlanks", "()V"⟩, 9), (⟨"ChiefCircles$TextReader", "wordEnd", "()I"⟩, 9), (⟨"ChiefCircles$TextReader", "isWord", "(Ljava/lang/String;I)Z"⟩, 9), (⟨"ChiefCircles$TextReader", "fails", "(II)Z"⟩, 9), (⟨"ChiefCircles$TextReader", "takeNumber", "(II)Z"⟩, 9), (⟨"ChiefCircles$TextReader", "isDigit", "(I)Z"⟩, 9), (⟨"ChiefCircles$TextReader", "takeEnd", "()Z"⟩, 9), (⟨"ChiefCircles$TextReader", "takeLine", "()Z"⟩, 9), (⟨"ChiefCircles$TextReader", "lineOf", "(I)I"⟩, 9), (⟨"ChiefCircles$TextReader", "takeRanks", "()Z"⟩, 9), (⟨"ChiefCircles$TextReader", "takeRule", "(I)Z"⟩, 9)]
theorem lw_r2 : ∀ q ∈ lw_privs_2, lw_okq q := List.forall_mem_cons.mpr ⟨lw_p16, List.forall_mem_cons.mpr ⟨lw_p17, List.forall_mem_cons.mpr ⟨lw_p18, List.forall_mem_cons.mpr ⟨lw_p19, List.forall_mem_cons.mpr ⟨lw_p20, List.forall_mem_cons.mpr ⟨lw_p21, List.forall_mem_cons.mpr ⟨lw_p22, List.forall_mem_cons.mpr ⟨lw_p23, List.forall_mem_cons.mpr ⟨lw_p24, List.forall_mem_cons.mpr ⟨lw_p25, List.forall_mem_cons.mpr ⟨lw_p26, List.forall_mem_cons.mpr ⟨lw_p27, List.forall_mem_cons.mpr ⟨lw_p28, List.forall_mem_cons.mpr ⟨lw_p29, List.forall_mem_cons.mpr ⟨lw_p30, List.forall_mem_cons.mpr ⟨lw_p31, fun _ h => absurd h List.not_mem_nil⟩⟩⟩⟩⟩⟩⟩⟩⟩⟩⟩⟩⟩⟩⟩⟩
theorem lw_p32 : lw_okq (⟨"ChiefCircles$World", "labour", "(LChiefCircles$Member;)V"⟩, 9) := ⟨⟨by decide +kernel, by decide +kernel⟩, List.mem_of_getElem? (i := 98) (by decide +kernel), List.mem_of_getElem? (i := 738) (by decide +kernel), List.mem_of_getElem? (i := 739) (by decide +kernel)⟩
theorem lw_p33 : lw_okq (⟨"ChiefCircles", "needMember", "(I)V"⟩, 11) := ⟨⟨by decide +kernel, by decide +kernel⟩, List.mem_of_getElem? (i := 25) (by decide +kernel), List.mem_of_getElem? (i := 770) (by decide +kernel), List.mem_of_getElem? (i := 771) (by decide +kernel)⟩
theorem lw_p34 : lw_okq (⟨"ChiefCircles", "needElement", "(Z)V"⟩, 11) := ⟨⟨by decide +kernel, by decide +kernel⟩, List.mem_of_getElem? (i := 25) (by decide +kernel), List.mem_of_getElem? (i := 774) (by decide +kernel), List.mem_of_getElem? (i := 775) (by decide +kernel)⟩
theorem lw_p35 : lw_okq (⟨"ChiefCircles", "needState", "(Z)V"⟩, 11) := ⟨⟨by decide +kernel, by decide +kernel⟩, List.mem_of_getElem? (i := 25) (by decide +kernel), List.mem_of_getElem? (i := 794) (by decide +kernel), List.mem_of_getElem? (i := 795) (by decide +kernel)⟩
theorem lw_p36 : lw_okq (⟨"ChiefCircles", "needJob", "(I)V"⟩, 11) := ⟨⟨by decide +kernel, by decide +kernel⟩, List.mem_of_getElem? (i := 25) (by decide +kernel), List.mem_of_getElem? (i := 901) (by decide +kernel), List.mem_of_getElem? (i := 902) (by decide +kernel)⟩
theorem lw_p37 : lw_okq (⟨"ChiefCirclesModel", "freshDraft", "(I)V"⟩, 20) := ⟨⟨by decide +kernel, by decide +kernel⟩, List.mem_of_getElem? (i := 1033) (by decide +kernel), List.mem_of_getElem? (i := 1041) (by decide +kernel), List.mem_of_getElem? (i := 1042) (by decide +kernel)⟩
theorem lw_p38 : lw_okq (⟨"ChiefCirclesModel", "begins", "([I)V"⟩, 20) := ⟨⟨by decide +kernel, by decide +kernel⟩, List.mem_of_getElem? (i := 1033) (by decide +kernel), List.mem_of_getElem? (i := 1045) (by decide +kernel), List.mem_of_getElem? (i := 1046) (by decide +kernel)⟩
theorem lw_p39 : lw_okq (⟨"ChiefCirclesModel", "goesAlone", "(I)V"⟩, 20) := ⟨⟨by decide +kernel, by decide +kernel⟩, List.mem_of_getElem? (i := 1033) (by decide +kernel), List.mem_of_getElem? (i := 1052) (by decide +kernel), List.mem_of_getElem? (i := 1053) (by decide +kernel)⟩
theorem lw_p40 : lw_okq (⟨"ChiefCirclesModel", "newGroup", "(I)V"⟩, 20) := ⟨⟨by decide +kernel, by decide +kernel⟩, List.mem_of_getElem? (i := 1033) (by decide +kernel), List.mem_of_getElem? (i := 1056) (by decide +kernel), List.mem_of_getElem? (i := 1057) (by decide +kernel)⟩
theorem lw_p41 : lw_okq (⟨"ChiefCirclesModel", "changes", "(II)V"⟩, 20) := ⟨⟨by decide +kernel, by decide +kernel⟩, List.mem_of_getElem? (i := 1033) (by decide +kernel), List.mem_of_getElem? (i := 1063) (by decide +kernel), List.mem_of_getElem? (i := 1064) (by decide +kernel)⟩
theorem lw_p42 : lw_okq (⟨"ChiefCirclesModel", "noneFound", "(I)V"⟩, 20) := ⟨⟨by decide +kernel, by decide +kernel⟩, List.mem_of_getElem? (i := 1033) (by decide +kernel), List.mem_of_getElem? (i := 1067) (by decide +kernel), List.mem_of_getElem? (i := 1068) (by decide +kernel)⟩
theorem lw_p43 : lw_okq (⟨"ChiefCirclesModel", "phase", "(III)V"⟩, 20) := ⟨⟨by decide +kernel, by decide +kernel⟩, List.mem_of_getElem? (i := 1033) (by decide +kernel), List.mem_of_getElem? (i := 1071) (by decide +kernel), List.mem_of_getElem? (i := 1072) (by decide +kernel)⟩
theorem lw_p44 : lw_okq (⟨"ChiefCirclesModel", "bad", "(ZII)Z"⟩, 20) := ⟨⟨by decide +kernel, by decide +kernel⟩, List.mem_of_getElem? (i := 1033) (by decide +kernel), List.mem_of_getElem? (i := 1151) (by decide +kernel), List.mem_of_getElem? (i := 1152) (by decide +kernel)⟩
theorem lw_p45 : lw_okq (⟨"ChiefCirclesModel", "here", "()I"⟩, 20) := ⟨⟨by decide +kernel, by decide +kernel⟩, List.mem_of_getElem? (i := 1033) (by decide +kernel), List.mem_of_getElem? (i := 1155) (by decide +kernel), List.mem_of_getElem? (i := 1156) (by decide +kernel)⟩
theorem lw_p46 : lw_okq (⟨"ChiefCirclesModel", "byteAt", "(I)I"⟩, 20) := ⟨⟨by decide +kernel, by decide +kernel⟩, List.mem_of_getElem? (i := 1033) (by decide +kernel), List.mem_of_getElem? (i := 1159) (by decide +kernel), List.mem_of_getElem? (i := 1160) (by decide +kernel)⟩
theorem lw_p47 : lw_okq (⟨"ChiefCirclesModel", "takes", "(Ljava/lang/String;)Z"⟩, 20) := ⟨⟨by decide +kernel, by decide +kernel⟩, List.mem_of_getElem? (i := 1033) (by decide +kernel), List.mem_of_getElem? (i := 1164) (by decide +kernel), List.mem_of_getElem? (i := 1165) (by decide +kernel)⟩
def lw_privs_3 : List (MethodName × Nat) := [(⟨"ChiefCircles$World", "labour", "(LChiefCircles$Member;)V"⟩, 9), (⟨"ChiefCircles", "needMember", "(I)V"⟩, 11), (⟨"ChiefCircles", "needElement", "(Z)V"⟩, 11), (⟨"ChiefCircles", "needState", "(Z)V"⟩, 11), (⟨"ChiefCircles", "needJob", "(I)V"⟩, 11), (⟨"ChiefCirclesModel", "freshDraft", "(I)V"⟩, 20), (⟨"ChiefCirclesModel", "begins", "([I)V"⟩, 20), (⟨"ChiefCirclesModel", "goesAlone", "(I)V"⟩, 20), (⟨"ChiefCirclesModel", "newGroup", "(I)V"⟩, 20), (⟨"ChiefCirclesModel", "changes", "(II)V"⟩, 20), (⟨"ChiefCirclesModel", "noneFound", "(I)V"⟩, 20), (⟨"ChiefCirclesModel", "phase", "(III)V"⟩, 20), (⟨"ChiefCirclesModel", "bad", "(ZII)Z"⟩, 20), (⟨"ChiefCirclesModel", "here", "()I"⟩, 20), (⟨"ChiefCirclesModel", "byteAt", "(I)I"⟩, 20), (⟨"ChiefCirclesModel", "takes", "(Ljava/lang/String;)Z"⟩, 20)]
theorem lw_r3 : ∀ q ∈ lw_privs_3, lw_okq q := List.forall_mem_cons.mpr ⟨lw_p32, List.forall_mem_cons.mpr ⟨lw_p33, List.forall_mem_cons.mpr ⟨lw_p34, List.forall_mem_cons.mpr ⟨lw_p35, List.forall_mem_cons.mpr ⟨lw_p36, List.forall_mem_cons.mpr ⟨lw_p37, List.forall_mem_cons.mpr ⟨lw_p38, List.forall_mem_cons.mpr ⟨lw_p39, List.forall_mem_cons.mpr ⟨lw_p40, List.forall_mem_cons.mpr ⟨lw_p41, List.forall_mem_cons.mpr ⟨lw_p42, List.forall_mem_cons.mpr ⟨lw_p43, List.forall_mem_cons.mpr ⟨lw_p44, List.forall_mem_cons.mpr ⟨lw_p45, List.forall_mem_cons.mpr ⟨lw_p46, List.forall_mem_cons.mpr ⟨lw_p47, fun _ h => absurd h List.not_mem_nil⟩⟩⟩⟩⟩⟩⟩⟩⟩⟩⟩⟩⟩⟩⟩⟩
theorem lw_p48 : lw_okq (⟨"ChiefCirclesModel", "fine", "()Z"⟩, 20) := ⟨⟨by decide +kernel, by decide +kernel⟩, List.mem_of_getElem? (i := 1033) (by decide +kernel), List.mem_of_getElem? (i := 1168) (by decide +kernel), List.mem_of_getElem? (i := 1169) (by decide +kernel)⟩
theorem lw_p49 : lw_okq (⟨"ChiefCirclesModel", "wrong", "(II)V"⟩, 20) := ⟨⟨by decide +kernel, by decide +kernel⟩, List.mem_of_getElem? (i := 1033) (by decide +kernel), List.mem_of_getElem? (i := 1177) (by decide +kernel), List.mem_of_getElem? (i := 1178) (by decide +kernel)⟩
theorem lw_p50 : lw_okq (⟨"ChiefCirclesModel", "number", "(II)I"⟩, 20) := ⟨⟨by decide +kernel, by decide +kernel⟩, List.mem_of_getElem? (i := 1033) (by decide +kernel), List.mem_of_getElem? (i := 1181) (by decide +kernel), List.mem_of_getElem? (i := 1182) (by decide +kernel)⟩
theorem lw_p51 : lw_okq (⟨"ChiefCirclesModel", "ends", "()V"⟩, 20) := ⟨⟨by decide +kernel, by decide +kernel⟩, List.mem_of_getElem? (i := 1033) (by decide +kernel), List.mem_of_getElem? (i := 1192) (by decide +kernel), List.mem_of_getElem? (i := 1193) (by decide +kernel)⟩
theorem lw_p52 : lw_okq (⟨"ChiefCirclesModel", "readsLine", "()V"⟩, 20) := ⟨⟨by decide +kernel, by decide +kernel⟩, List.mem_of_getElem? (i := 1033) (by decide +kernel), List.mem_of_getElem? (i := 1196) (by decide +kernel), List.mem_of_getElem? (i := 1197) (by decide +kernel)⟩
theorem lw_p53 : lw_okq (⟨"ChiefCirclesModel", "readsRanks", "()V"⟩, 20) := ⟨⟨by decide +kernel, by decide +kernel⟩, List.mem_of_getElem? (i := 1033) (by decide +kernel), List.mem_of_getElem? (i := 1209) (by decide +kernel), List.mem_of_getElem? (i := 1210) (by decide +kernel)⟩
theorem lw_p54 : lw_okq (⟨"ChiefCirclesModel", "remembers", "()V"⟩, 20) := ⟨⟨by decide +kernel, by decide +kernel⟩, List.mem_of_getElem? (i := 1033) (by decide +kernel), List.mem_of_getElem? (i := 1229) (by decide +kernel), List.mem_of_getElem? (i := 1230) (by decide +kernel)⟩
theorem lw_p55 : lw_okq (⟨"ChiefCirclesModel", "ticksOf", "(I)I"⟩, 20) := ⟨⟨by decide +kernel, by decide +kernel⟩, List.mem_of_getElem? (i := 1033) (by decide +kernel), List.mem_of_getElem? (i := 1233) (by decide +kernel), List.mem_of_getElem? (i := 1234) (by decide +kernel)⟩
theorem lw_p56 : lw_okq (⟨"ChiefCirclesModel", "tick", "()V"⟩, 20) := ⟨⟨by decide +kernel, by decide +kernel⟩, List.mem_of_getElem? (i := 1033) (by decide +kernel), List.mem_of_getElem? (i := 1237) (by decide +kernel), List.mem_of_getElem? (i := 1238) (by decide +kernel)⟩
theorem lw_p57 : lw_okq (⟨"ChiefCirclesModel", "arrives", "()V"⟩, 20) := ⟨⟨by decide +kernel, by decide +kernel⟩, List.mem_of_getElem? (i := 1033) (by decide +kernel), List.mem_of_getElem? (i := 1241) (by decide +kernel), List.mem_of_getElem? (i := 1242) (by decide +kernel)⟩
theorem lw_p58 : lw_okq (⟨"ChiefCirclesModel", "takesOut", "(I)V"⟩, 20) := ⟨⟨by decide +kernel, by decide +kernel⟩, List.mem_of_getElem? (i := 1033) (by decide +kernel), List.mem_of_getElem? (i := 1245) (by decide +kernel), List.mem_of_getElem? (i := 1246) (by decide +kernel)⟩
theorem lw_p59 : lw_okq (⟨"ChiefCirclesModel", "isWhole", "(II)Z"⟩, 20) := ⟨⟨by decide +kernel, by decide +kernel⟩, List.mem_of_getElem? (i := 1033) (by decide +kernel), List.mem_of_getElem? (i := 1249) (by decide +kernel), List.mem_of_getElem? (i := 1250) (by decide +kernel)⟩
theorem lw_p60 : lw_okq (⟨"ChiefCirclesModel", "isDown", "(I)Z"⟩, 20) := ⟨⟨by decide +kernel, by decide +kernel⟩, List.mem_of_getElem? (i := 1033) (by decide +kernel), List.mem_of_getElem? (i := 1253) (by decide +kernel), List.mem_of_getElem? (i := 1254) (by decide +kernel)⟩
theorem lw_p61 : lw_okq (⟨"ChiefCirclesModel", "handles", "()V"⟩, 20) := ⟨⟨by decide +kernel, by decide +kernel⟩, List.mem_of_getElem? (i := 1033) (by decide +kernel), List.mem_of_getElem? (i := 1257) (by decide +kernel), List.mem_of_getElem? (i := 1258) (by decide +kernel)⟩
theorem lw_p62 : lw_okq (⟨"ChiefCirclesModel", "isNormal", "(I)Z"⟩, 20) := ⟨⟨by decide +kernel, by decide +kernel⟩, List.mem_of_getElem? (i := 1033) (by decide +kernel), List.mem_of_getElem? (i := 1261) (by decide +kernel), List.mem_of_getElem? (i := 1262) (by decide +kernel)⟩
theorem lw_p63 : lw_okq (⟨"ChiefCirclesModel", "isChief", "(I)Z"⟩, 20) := ⟨⟨by decide +kernel, by decide +kernel⟩, List.mem_of_getElem? (i := 1033) (by decide +kernel), List.mem_of_getElem? (i := 1265) (by decide +kernel), List.mem_of_getElem? (i := 1266) (by decide +kernel)⟩
def lw_privs_4 : List (MethodName × Nat) := [(⟨"ChiefCirclesModel", "fine", "()Z"⟩, 20), (⟨"ChiefCirclesModel", "wrong", "(II)V"⟩, 20), (⟨"ChiefCirclesModel", "number", "(II)I"⟩, 20), (⟨"ChiefCirclesModel", "ends", "()V"⟩, 20), (⟨"ChiefCirclesModel", "readsLine", "()V"⟩, 20), (⟨"ChiefCirclesModel", "readsRanks", "()V"⟩, 20), (⟨"ChiefCirclesModel", "remembers", "()V"⟩, 20), (⟨"ChiefCirclesModel", "ticksOf", "(I)I"⟩, 20), (⟨"ChiefCirclesModel", "tick", "()V"⟩, 20), (⟨"ChiefCirclesModel", "arrives", "()V"⟩, 20), (⟨"ChiefCirclesModel", "takesOut", "(I)V"⟩, 20), (⟨"ChiefCirclesModel", "isWhole", "(II)Z"⟩, 20), (⟨"ChiefCirclesModel", "isDown", "(I)Z"⟩, 20), (⟨"ChiefCirclesModel", "handles", "()V"⟩, 20), (⟨"ChiefCirclesModel", "isNormal", "(I)Z"⟩, 20), (⟨"ChiefCirclesModel", "isChief", "(I)Z"⟩, 20)]
theorem lw_r4 : ∀ q ∈ lw_privs_4, lw_okq q := List.forall_mem_cons.mpr ⟨lw_p48, List.forall_mem_cons.mpr ⟨lw_p49, List.forall_mem_cons.mpr ⟨lw_p50, List.forall_mem_cons.mpr ⟨lw_p51, List.forall_mem_cons.mpr ⟨lw_p52, List.forall_mem_cons.mpr ⟨lw_p53, List.forall_mem_cons.mpr ⟨lw_p54, List.forall_mem_cons.mpr ⟨lw_p55, List.forall_mem_cons.mpr ⟨lw_p56, List.forall_mem_cons.mpr ⟨lw_p57, List.forall_mem_cons.mpr ⟨lw_p58, List.forall_mem_cons.mpr ⟨lw_p59, List.forall_mem_cons.mpr ⟨lw_p60, List.forall_mem_cons.mpr ⟨lw_p61, List.forall_mem_cons.mpr ⟨lw_p62, List.forall_mem_cons.mpr ⟨lw_p63, fun _ h => absurd h List.not_mem_nil⟩⟩⟩⟩⟩⟩⟩⟩⟩⟩⟩⟩⟩⟩⟩⟩
theorem lw_p64 : lw_okq (⟨"ChiefCirclesModel", "sends", "(IIIIII)V"⟩, 20) := ⟨⟨by decide +kernel, by decide +kernel⟩, List.mem_of_getElem? (i := 1033) (by decide +kernel), List.mem_of_getElem? (i := 1269) (by decide +kernel), List.mem_of_getElem? (i := 1270) (by decide +kernel)⟩
theorem lw_p65 : lw_okq (⟨"ChiefCirclesModel", "invited", "(III)V"⟩, 20) := ⟨⟨by decide +kernel, by decide +kernel⟩, List.mem_of_getElem? (i := 1033) (by decide +kernel), List.mem_of_getElem? (i := 1273) (by decide +kernel), List.mem_of_getElem? (i := 1274) (by decide +kernel)⟩
theorem lw_p66 : lw_okq (⟨"ChiefCirclesModel", "sendsAll", "(IIIIII)V"⟩, 20) := ⟨⟨by decide +kernel, by decide +kernel⟩, List.mem_of_getElem? (i := 1033) (by decide +kernel), List.mem_of_getElem? (i := 1277) (by decide +kernel), List.mem_of_getElem? (i := 1278) (by decide +kernel)⟩
theorem lw_p67 : lw_okq (⟨"ChiefCirclesModel", "learns", "(I)V"⟩, 20) := ⟨⟨by decide +kernel, by decide +kernel⟩, List.mem_of_getElem? (i := 1033) (by decide +kernel), List.mem_of_getElem? (i := 1281) (by decide +kernel), List.mem_of_getElem? (i := 1282) (by decide +kernel)⟩
theorem lw_p68 : lw_okq (⟨"ChiefCirclesModel", "rings", "(I)V"⟩, 20) := ⟨⟨by decide +kernel, by decide +kernel⟩, List.mem_of_getElem? (i := 1033) (by decide +kernel), List.mem_of_getElem? (i := 1288) (by decide +kernel), List.mem_of_getElem? (i := 1289) (by decide +kernel)⟩
theorem lw_p69 : lw_okq (⟨"ChiefCirclesModel", "greaterOf", "(II)I"⟩, 20) := ⟨⟨by decide +kernel, by decide +kernel⟩, List.mem_of_getElem? (i := 1033) (by decide +kernel), List.mem_of_getElem? (i := 1292) (by decide +kernel), List.mem_of_getElem? (i := 1293) (by decide +kernel)⟩
theorem lw_p70 : lw_okq (⟨"ChiefCirclesModel", "merges", "(I)V"⟩, 20) := ⟨⟨by decide +kernel, by decide +kernel⟩, List.mem_of_getElem? (i := 1033) (by decide +kernel), List.mem_of_getElem? (i := 1296) (by decide +kernel), List.mem_of_getElem? (i := 1297) (by decide +kernel)⟩
theorem lw_p71 : lw_okq (⟨"ChiefCirclesModel", "works", "(I)V"⟩, 20) := ⟨⟨by decide +kernel, by decide +kernel⟩, List.mem_of_getElem? (i := 1033) (by decide +kernel), List.mem_of_getElem? (i := 1300) (by decide +kernel), List.mem_of_getElem? (i := 1301) (by decide +kernel)⟩
theorem lw_p72 : lw_okq (⟨"ChiefCirclesModel", "partOf", "(I)I"⟩, 20) := ⟨⟨by decide +kernel, by decide +kernel⟩, List.mem_of_getElem? (i := 1033) (by decide +kernel), List.mem_of_getElem? (i := 1304) (by decide +kernel), List.mem_of_getElem? (i := 1305) (by decide +kernel)⟩
theorem lw_p73 : lw_okq (⟨"ChiefCirclesModel", "isSet", "(I)Z"⟩, 20) := ⟨⟨by decide +kernel, by decide +kernel⟩, List.mem_of_getElem? (i := 1033) (by decide +kernel), List.mem_of_getElem? (i := 1315) (by decide +kernel), List.mem_of_getElem? (i := 1316) (by decide +kernel)⟩
theorem lw_p74 : lw_okq (⟨"ChiefCirclesModel", "cuts", "(I)I"⟩, 20) := ⟨⟨by decide +kernel, by decide +kernel⟩, List.mem_of_getElem? (i := 1033) (by decide +kernel), List.mem_of_getElem? (i := 1319) (by decide +kernel), List.mem_of_getElem? (i := 1320) (by decide +kernel)⟩
theorem lw_p75 : lw_okq (⟨"ChiefCirclesModel", "heals", "()I"⟩, 20) := ⟨⟨by decide +kernel, by decide +kernel⟩, List.mem_of_getElem? (i := 1033) (by decide +kernel), List.mem_of_getElem? (i := 1327) (by decide +kernel), List.mem_of_getElem? (i := 1328) (by decide +kernel)⟩
theorem lw_p76 : lw_okq (⟨"ChiefCirclesModel", "isMember", "(I)Z"⟩, 20) := ⟨⟨by decide +kernel, by decide +kernel⟩, List.mem_of_getElem? (i := 1033) (by decide +kernel), List.mem_of_getElem? (i := 1335) (by decide +kernel), List.mem_of_getElem? (i := 1336) (by decide +kernel)⟩
theorem lw_p77 : lw_okq (⟨"ChiefCirclesModel", "falls", "(I)I"⟩, 20) := ⟨⟨by decide +kernel, by decide +kernel⟩, List.mem_of_getElem? (i := 1033) (by decide +kernel), List.mem_of_getElem? (i := 1339) (by decide +kernel), List.mem_of_getElem? (i := 1340) (by decide +kernel)⟩
theorem lw_p78 : lw_okq (⟨"ChiefCirclesModel", "circles", "()I"⟩, 20) := ⟨⟨by decide +kernel, by decide +kernel⟩, List.mem_of_getElem? (i := 1033) (by decide +kernel), List.mem_of_getElem? (i := 1358) (by decide +kernel), List.mem_of_getElem? (i := 1359) (by decide +kernel)⟩
theorem lw_p79 : lw_okq (⟨"ChiefCirclesModel", "circleOf", "(I)I"⟩, 20) := ⟨⟨by decide +kernel, by decide +kernel⟩, List.mem_of_getElem? (i := 1033) (by decide +kernel), List.mem_of_getElem? (i := 1362) (by decide +kernel), List.mem_of_getElem? (i := 1363) (by decide +kernel)⟩
def lw_privs_5 : List (MethodName × Nat) := [(⟨"ChiefCirclesModel", "sends", "(IIIIII)V"⟩, 20), (⟨"ChiefCirclesModel", "invited", "(III)V"⟩, 20), (⟨"ChiefCirclesModel", "sendsAll", "(IIIIII)V"⟩, 20), (⟨"ChiefCirclesModel", "learns", "(I)V"⟩, 20), (⟨"ChiefCirclesModel", "rings", "(I)V"⟩, 20), (⟨"ChiefCirclesModel", "greaterOf", "(II)I"⟩, 20), (⟨"ChiefCirclesModel", "merges", "(I)V"⟩, 20), (⟨"ChiefCirclesModel", "works", "(I)V"⟩, 20), (⟨"ChiefCirclesModel", "partOf", "(I)I"⟩, 20), (⟨"ChiefCirclesModel", "isSet", "(I)Z"⟩, 20), (⟨"ChiefCirclesModel", "cuts", "(I)I"⟩, 20), (⟨"ChiefCirclesModel", "heals", "()I"⟩, 20), (⟨"ChiefCirclesModel", "isMember", "(I)Z"⟩, 20), (⟨"ChiefCirclesModel", "falls", "(I)I"⟩, 20), (⟨"ChiefCirclesModel", "circles", "()I"⟩, 20), (⟨"ChiefCirclesModel", "circleOf", "(I)I"⟩, 20)]
theorem lw_r5 : ∀ q ∈ lw_privs_5, lw_okq q := List.forall_mem_cons.mpr ⟨lw_p64, List.forall_mem_cons.mpr ⟨lw_p65, List.forall_mem_cons.mpr ⟨lw_p66, List.forall_mem_cons.mpr ⟨lw_p67, List.forall_mem_cons.mpr ⟨lw_p68, List.forall_mem_cons.mpr ⟨lw_p69, List.forall_mem_cons.mpr ⟨lw_p70, List.forall_mem_cons.mpr ⟨lw_p71, List.forall_mem_cons.mpr ⟨lw_p72, List.forall_mem_cons.mpr ⟨lw_p73, List.forall_mem_cons.mpr ⟨lw_p74, List.forall_mem_cons.mpr ⟨lw_p75, List.forall_mem_cons.mpr ⟨lw_p76, List.forall_mem_cons.mpr ⟨lw_p77, List.forall_mem_cons.mpr ⟨lw_p78, List.forall_mem_cons.mpr ⟨lw_p79, fun _ h => absurd h List.not_mem_nil⟩⟩⟩⟩⟩⟩⟩⟩⟩⟩⟩⟩⟩⟩⟩⟩
theorem lw_p80 : lw_okq (⟨"ChiefCirclesModel", "sets", "()I"⟩, 20) := ⟨⟨by decide +kernel, by decide +kernel⟩, List.mem_of_getElem? (i := 1033) (by decide +kernel), List.mem_of_getElem? (i := 1369) (by decide +kernel), List.mem_of_getElem? (i := 1370) (by decide +kernel)⟩
theorem lw_p81 : lw_okq (⟨"ChiefCirclesModel", "setOf", "(I)I"⟩, 20) := ⟨⟨by decide +kernel, by decide +kernel⟩, List.mem_of_getElem? (i := 1033) (by decide +kernel), List.mem_of_getElem? (i := 1373) (by decide +kernel), List.mem_of_getElem? (i := 1374) (by decide +kernel)⟩
theorem lw_p82 : lw_okq (⟨"ChiefCirclesModel", "isOne", "()Z"⟩, 20) := ⟨⟨by decide +kernel, by decide +kernel⟩, List.mem_of_getElem? (i := 1033) (by decide +kernel), List.mem_of_getElem? (i := 1377) (by decide +kernel), List.mem_of_getElem? (i := 1378) (by decide +kernel)⟩
theorem lw_p83 : lw_okq (⟨"ChiefCirclesModel", "isSound", "()Z"⟩, 20) := ⟨⟨by decide +kernel, by decide +kernel⟩, List.mem_of_getElem? (i := 1033) (by decide +kernel), List.mem_of_getElem? (i := 1381) (by decide +kernel), List.mem_of_getElem? (i := 1382) (by decide +kernel)⟩
theorem lw_p84 : lw_okq (⟨"ChiefCirclesModel", "twice", "()I"⟩, 20) := ⟨⟨by decide +kernel, by decide +kernel⟩, List.mem_of_getElem? (i := 1033) (by decide +kernel), List.mem_of_getElem? (i := 1385) (by decide +kernel), List.mem_of_getElem? (i := 1386) (by decide +kernel)⟩
theorem lw_p85 : lw_okq (⟨"ChiefCirclesModel", "workOf", "(I)I"⟩, 20) := ⟨⟨by decide +kernel, by decide +kernel⟩, List.mem_of_getElem? (i := 1033) (by decide +kernel), List.mem_of_getElem? (i := 1389) (by decide +kernel), List.mem_of_getElem? (i := 1390) (by decide +kernel)⟩
theorem lw_p86 : lw_okq (⟨"ChiefCirclesModel", "greatestOf", "(I)I"⟩, 20) := ⟨⟨by decide +kernel, by decide +kernel⟩, List.mem_of_getElem? (i := 1033) (by decide +kernel), List.mem_of_getElem? (i := 1393) (by decide +kernel), List.mem_of_getElem? (i := 1394) (by decide +kernel)⟩
theorem lw_p87 : lw_okq (⟨"ChiefCirclesModel", "jobsIn", "(Z)I"⟩, 20) := ⟨⟨by decide +kernel, by decide +kernel⟩, List.mem_of_getElem? (i := 1033) (by decide +kernel), List.mem_of_getElem? (i := 1397) (by decide +kernel), List.mem_of_getElem? (i := 1398) (by decide +kernel)⟩
theorem lw_p88 : lw_okq (⟨"ChiefCirclesModel", "isJob", "(I)Z"⟩, 20) := ⟨⟨by decide +kernel, by decide +kernel⟩, List.mem_of_getElem? (i := 1033) (by decide +kernel), List.mem_of_getElem? (i := 1409) (by decide +kernel), List.mem_of_getElem? (i := 1410) (by decide +kernel)⟩
theorem lw_p89 : lw_okq (⟨"ChiefCirclesModel", "leastOf", "(I)I"⟩, 20) := ⟨⟨by decide +kernel, by decide +kernel⟩, List.mem_of_getElem? (i := 1033) (by decide +kernel), List.mem_of_getElem? (i := 1417) (by decide +kernel), List.mem_of_getElem? (i := 1418) (by decide +kernel)⟩
theorem lw_p90 : lw_okq (⟨"ChiefCirclesModel", "untilNow", "()I"⟩, 20) := ⟨⟨by decide +kernel, by decide +kernel⟩, List.mem_of_getElem? (i := 1033) (by decide +kernel), List.mem_of_getElem? (i := 1453) (by decide +kernel), List.mem_of_getElem? (i := 1454) (by decide +kernel)⟩
theorem lw_p91 : lw_okq (⟨"ChiefCirclesModel", "untilFall", "(I)I"⟩, 20) := ⟨⟨by decide +kernel, by decide +kernel⟩, List.mem_of_getElem? (i := 1033) (by decide +kernel), List.mem_of_getElem? (i := 1461) (by decide +kernel), List.mem_of_getElem? (i := 1462) (by decide +kernel)⟩
theorem lw_p92 : lw_okq (⟨"ChiefCirclesModel", "commonChief", "()I"⟩, 20) := ⟨⟨by decide +kernel, by decide +kernel⟩, List.mem_of_getElem? (i := 1033) (by decide +kernel), List.mem_of_getElem? (i := 1481) (by decide +kernel), List.mem_of_getElem? (i := 1482) (by decide +kernel)⟩
theorem lw_p93 : lw_okq (⟨"ChiefCirclesModel", "storm", "(I)I"⟩, 20) := ⟨⟨by decide +kernel, by decide +kernel⟩, List.mem_of_getElem? (i := 1033) (by decide +kernel), List.mem_of_getElem? (i := 1489) (by decide +kernel), List.mem_of_getElem? (i := 1490) (by decide +kernel)⟩
theorem lw_p94 : lw_okq (⟨"ChiefCirclesModel", "draw", "(I)I"⟩, 20) := ⟨⟨by decide +kernel, by decide +kernel⟩, List.mem_of_getElem? (i := 1033) (by decide +kernel), List.mem_of_getElem? (i := 1493) (by decide +kernel), List.mem_of_getElem? (i := 1494) (by decide +kernel)⟩
def lw_privs_6 : List (MethodName × Nat) := [(⟨"ChiefCirclesModel", "sets", "()I"⟩, 20), (⟨"ChiefCirclesModel", "setOf", "(I)I"⟩, 20), (⟨"ChiefCirclesModel", "isOne", "()Z"⟩, 20), (⟨"ChiefCirclesModel", "isSound", "()Z"⟩, 20), (⟨"ChiefCirclesModel", "twice", "()I"⟩, 20), (⟨"ChiefCirclesModel", "workOf", "(I)I"⟩, 20), (⟨"ChiefCirclesModel", "greatestOf", "(I)I"⟩, 20), (⟨"ChiefCirclesModel", "jobsIn", "(Z)I"⟩, 20), (⟨"ChiefCirclesModel", "isJob", "(I)Z"⟩, 20), (⟨"ChiefCirclesModel", "leastOf", "(I)I"⟩, 20), (⟨"ChiefCirclesModel", "untilNow", "()I"⟩, 20), (⟨"ChiefCirclesModel", "untilFall", "(I)I"⟩, 20), (⟨"ChiefCirclesModel", "commonChief", "()I"⟩, 20), (⟨"ChiefCirclesModel", "storm", "(I)I"⟩, 20), (⟨"ChiefCirclesModel", "draw", "(I)I"⟩, 20)]
theorem lw_r6 : ∀ q ∈ lw_privs_6, lw_okq q := List.forall_mem_cons.mpr ⟨lw_p80, List.forall_mem_cons.mpr ⟨lw_p81, List.forall_mem_cons.mpr ⟨lw_p82, List.forall_mem_cons.mpr ⟨lw_p83, List.forall_mem_cons.mpr ⟨lw_p84, List.forall_mem_cons.mpr ⟨lw_p85, List.forall_mem_cons.mpr ⟨lw_p86, List.forall_mem_cons.mpr ⟨lw_p87, List.forall_mem_cons.mpr ⟨lw_p88, List.forall_mem_cons.mpr ⟨lw_p89, List.forall_mem_cons.mpr ⟨lw_p90, List.forall_mem_cons.mpr ⟨lw_p91, List.forall_mem_cons.mpr ⟨lw_p92, List.forall_mem_cons.mpr ⟨lw_p93, List.forall_mem_cons.mpr ⟨lw_p94, fun _ h => absurd h List.not_mem_nil⟩⟩⟩⟩⟩⟩⟩⟩⟩⟩⟩⟩⟩⟩⟩
def lw_privs : List (MethodName × Nat) := lw_privs_1 ++ (lw_privs_2 ++ (lw_privs_3 ++ (lw_privs_4 ++ (lw_privs_5 ++ (lw_privs_6)))))
def lw_tbl : List Cond := k2_sels lw_privs ++ tables_1
theorem lw_privs_ok : ∀ q ∈ lw_privs, lw_okq q := by
  show ∀ q ∈ lw_privs_1 ++ (lw_privs_2 ++ (lw_privs_3 ++ (lw_privs_4 ++ (lw_privs_5 ++ (lw_privs_6))))), lw_okq q
  exact List.forall_mem_append.mpr ⟨lw_r1, List.forall_mem_append.mpr ⟨lw_r2, List.forall_mem_append.mpr ⟨lw_r3, List.forall_mem_append.mpr ⟨lw_r4, List.forall_mem_append.mpr ⟨lw_r5, lw_r6⟩⟩⟩⟩⟩
-- ===== end of PART A; then your names; then what follows =====
end
section
/-! ===== BEGIN words of one list among another's, by their places ===== -/
theorem goodIn_r {big : List Cond} (ws : List Cond) (ps : List Nat) (hp : ws = ps.filterMap (fun i => big[i]?)) (h : ws.all goodWord = true) : GoodIn big ws := by
  intro w hw
  have h1 := List.all_eq_true.mp h w hw
  rw [hp] at hw
  obtain ⟨i, -, hi⟩ := List.mem_filterMap.mp hw
  have hm : w ∈ big := by first | exact List.mem_of_getElem? hi | exact List.getElem?_mem hi
  exact ⟨hm, good_of_word h1⟩
theorem goodIn_app {big a b : List Cond} (ha : GoodIn big a) (hb : GoodIn big b) : GoodIn big (a ++ b) := fun w h => (List.mem_append.mp h).elim (ha w) (hb w)
theorem goodIn_ca {big a b : List Cond} {c : Cond} (ha : GoodIn big (c :: a)) (hb : GoodIn big b) : GoodIn big (c :: (a ++ b)) := fun w h => (List.mem_cons.mp h).elim (fun e => ha w (List.mem_cons.mpr (Or.inl e))) (fun h => (List.mem_append.mp h).elim (fun h => ha w (List.mem_cons.mpr (Or.inr h))) (hb w))
theorem goodIn_sub {big ws : List Cond} (hm : ∀ w ∈ ws, w ∈ big) (h : ws.all goodWord = true) : GoodIn big ws := fun w hw => ⟨hm w hw, good_of_word (List.all_eq_true.mp h w hw)⟩
/-! ===== END ===== -/
/-! ===== BEGIN exceptions that leave a method, and their catching by the caller (launches without stack traces) ===== -/
section VXA
/-! The laws vx_back, vx_callV, vx_callS, vx_callSW, vx_throw0, vx_throwS follow proofs of the library, with one case more: JvmDerived/Free/Laws.lean (Back.of_free), Shelf42/LK1.lean (callV, callS), Shelf/KitTraced.lean (throwNew0V, throwNewS). -/
/-- where a method has thrown q: the class by its name, the cell, what was written, the world -/
def vx_T (XC : String → State → State → Prop) (st : State) (q : Addr) (t : State) (mc ms : Nat) (free : Addr → Prop) : Prop :=
  ∃ (E : String) (ce : Cell) (L : List Loc), XC E st t ∧ t.heap[q]? = some ce ∧ ce.vm = .none ∧ st.vm.findClass E = some ce.cls ∧ st.WarmedH t.vm ∧ st.sameButNew ({ t with vm := st.vm } : State) L mc ms ∧ ∀ z ∈ L, free z.base
def vx_Q (Qc : Array Value → State → Outcome → State → Prop) (XC : String → State → State → Prop) (mc ms : Nat) (free : Addr → Prop) : Array Value → State → Outcome → State → Prop := fun a st o t =>
  (Qc a st o t ∧ ∃ L, FrameEnd st o t L mc ms ∧ ∀ q ∈ L, free q.base) ∨ ∃ q, o = .threw q ∧ vx_T XC st q t mc ms free
/-- a callee that returns or throws -/
def vx_Met (l : Launch) (y : MethodName) (ws : List Cond) (rm : Room) (Pc : Array Value → State → Prop) (Qc : Array Value → State → Outcome → State → Prop) (XC : String → State → State → Prop) (mc ms : Nat) (free : Addr → Prop) : Prop :=
  MetFree l y (headSpec ws rm) Pc (fun _ _ _ _ _ => True) (vx_Q Qc XC mc ms free)
def vx_Post (XC : String → State → State → Prop) (mc ms : Nat) (free : Addr → Prop) : Pt → Array Value → Addr → Pt → Prop := fun A a q B =>
  ∃ (g : JFrame) (mk : MethodId) (t : State) (L : List Loc) (E : String) (ce : Cell), B.U.heap = t.heap ∧ B.U.vm = t.vm ∧ XC E (A.U.calling g mk a) t ∧ t.heap[q]? = some ce ∧ ce.vm = .none ∧ A.U.vm.findClass E = some ce.cls ∧ B.locs = A.locs ++ L ∧ (∀ z ∈ L, free z.base) ∧ B.cells = A.cells + mc ∧ B.slots = A.slots + ms
def vx_Back (l : Launch) (R : Room) (p : Program) (e : Env) (below : List Frame) (s : State) (sargs : Array Value) (y : MethodName) (len W9 : Nat)
    (Pre : Pt → Array Value → Prop) (Post : Pt → Array Value → Option Value → Pt → Prop) (PostX : Pt → Array Value → Addr → Pt → Prop) : Prop :=
  ∀ (m : MethodId) (meth : Method) (c : Code) (A : Pt) (g : JFrame) (ig : Instr) (mk : MethodId) (a : Array Value),
    Stand p l e R s m sargs below meth c A.U A.locs A.cells A.slots → g.method = m → g.locals.size = c.maxLocals → decode c.code g.pc = .ok (ig, len) →
    2 * g.monitorRoom + (g.stack.map fun v => v.category).sum ≤ W9 → A.U.methodNamed? y = some mk → Pre A a →
    (∃ (v : Option Value) (B : Pt), Stand p l e R s m sargs below meth c B.U B.locs B.cells B.slots ∧ Post A a v B ∧
      Steps p.tables e below (doInvoke e (A.U.setTop g) [] mk a).1 (B.U.setTop { g with pc := g.pc + len, stack := v.toList ++ g.stack })) ∨
    (∃ (q : Addr) (B : Pt), Stand p l e R s m sargs below meth c B.U B.locs B.cells B.slots ∧ PostX A a q B ∧
      Steps p.tables e below (doInvoke e (A.U.setTop g) [] mk a).1 ((B.U.setTop g).pushFrame (.throwing q)))
section Payer
variable {l : Launch} {R : Room} {p : Program} {e : Env} {below : List Frame} {s : State} {sargs : Array Value} {y : MethodName} {len W9 : Nat}
theorem vx_back {ws : List Cond} {rm : Room} {Pc : Array Value → State → Prop} {Qc : Array Value → State → Outcome → State → Prop} {XC : String → State → State → Prop} {mc ms : Nat} {free : Addr → Prop} {bytes : ByteArray} {maxL : Nat} {ret : Option FieldType}
    (hM : vx_Met l y ws rm Pc Qc XC mc ms free) (hblind : FrameBlind Pc) (hrc : rm.cells = mc) (hrs : rm.slots = ms)
    (hframes : rm.frames + 1 ≤ R.frames) (hlocals : W9 + (maxL + 11) + rm.locals ≤ R.locals)
    (hws : ∀ w ∈ ws, ∀ a' U, s.WarmedH U.vm → w.before a' U = true) (hcode : Cond.code y bytes maxL ret ∈ ws) (hinit : ∀ a' U, s.WarmedH U.vm → (Cond.initialized y.cls).before a' U = true) :
    vx_Back l R p e below s sargs y len W9 (PreOf R mc ms Pc) (PostOf Qc mc ms free) (vx_Post XC mc ms free) := by
  intro m meth c A g ig mk a X hg hsize hdg hW hn hp
  have h1 : (headSpec ws rm).pre.before a A.U = true := atoms_intro fun w hw => hws w hw _ _ X.warmed
  have h2 : (Cond.code y bytes maxL ret).before a A.U = true := hws _ hcode _ _ X.warmed
  have h3 : (Cond.initialized y.cls).before a A.U = true := hinit _ _ X.warmed
  have h4 : A.cells + (headSpec ws rm).room.cells ≤ R.cells := by rw [show (headSpec ws rm).room.cells = mc from hrc]; exact hp.1
  have h5 : A.slots + (headSpec ws rm).room.slots ≤ R.slots := by rw [show (headSpec ws rm).room.slots = ms from hrs]; exact hp.2.1
  have hPc : Pc a (A.U.calling g mk a) := hblind _ _ _ _ hp.2.2
  obtain ⟨U, Ls, c0, s0⟩ := A
  dsimp only [Pt.U, Pt.locs, Pt.cells, Pt.slots] at h1 h2 h3 h4 h5 X hn hPc ⊢
  obtain ⟨methY, cY, hmY, hcY, -, hlY, -, -, -, -⟩ := Cond.code_spec hn h2
  obtain ⟨kY, hkY, -⟩ := className_of_methodNamed hn
  have hinitY : kY.init = .initialized := Cond.initialized_spec (findClass_of_methodNamed hn) hkY h3
  have h : At U g.method c below := by rw [hg]; exact X.here
  have hlocals9 : W9 + (maxL + 11) + (headSpec ws rm).room.locals ≤ R.locals := hlocals
  have happ : (headSpec ws rm).appliesLoose y e.platform (U.calling g mk a) = true :=
    Spec.appliesLoose_calling (g := g) h hdg hn hkY hinitY
      (X.room_calling (g := g) (R' := (headSpec ws rm).room) hsize hmY hcY hframes (by rw [hlY]; omega) h4 h5) h1
  obtain ⟨mid, hmid⟩ := h.above
  have hfr : (U.setTop g).frames = (.java g :: mid) ++ below := by rw [State.frames_setTop' g h.top, hmid]; rfl
  obtain ⟨o, s₂, hsteps, -, hend, hq⟩ := Steps.callFree hM p X.admits X.cas X.clock (acts := []) hfr happ hPc trivial
  have hq' : vx_Q Qc XC mc ms free a (U.calling g mk a) o s₂ := hq
  rw [State.frames_setTop' g h.top] at hend
  obtain ⟨g₀, hg0⟩ := Option.isSome_iff_exists.mp h.top
  obtain ⟨r, hr⟩ := State.topJava?_eq_some.mp hg0
  have hr' : (({ U with heap := s₂.heap, slotsUsed := s₂.slotsUsed } : State).setVm s₂.vm).frames = .java g₀ :: r := hr
  rcases hq' with ⟨hqc, L, hfe, hL⟩ | ⟨q, rfl, E, ce, L, hx, hce, hcv, hcl, hW₂, hsm, hL⟩
  · obtain ⟨⟨v, rfl⟩, hW₂, e2, q2, q3, q4, q5, q6⟩ := id hfe
    have e3 : s₂ = ({ (U.calling g mk a).setFrames s₂.frames with heap := s₂.heap, slotsUsed := s₂.slotsUsed } : State).setVm s₂.vm := by
      have : s₂ = ({ s₂ with vm := (U.calling g mk a).vm } : State).setVm s₂.vm := rfl
      rw [e2] at this
      exact this
    obtain ⟨c₂, i₂, len₂, hc₂, hd₂, hf₂⟩ := hend
    have hW' : U.WarmedH s₂.vm := hW₂
    have hcc : c₂ = c := by
      have h1 : s₂.code? g.method = U.code? g.method := by
        rw [State.code?_eq, State.code?_eq, hW'.alike.method?]
      exact Option.some.inj (hc₂.symm.trans (h1.trans h.code))
    subst hcc
    have hlen : len₂ = len := by rw [hdg] at hd₂; cases hd₂; rfl
    subst hlen
    have hs₂ : s₂ = (({ U with heap := s₂.heap, slotsUsed := s₂.slotsUsed } : State).setVm s₂.vm).setTop { g with pc := g.pc + len₂, stack := v.toList ++ g.stack } := by
      refine e3.trans ?_
      rw [hf₂, State.calling_eq h.top, State.setFrames_setFrames, State.setTop_of_frames _ hr', hr]
      rfl
    have hsame : U.sameButNew ({ U with heap := s₂.heap, slotsUsed := s₂.slotsUsed } : State) L mc ms := by
      refine ⟨?_, q2, q3, q4, q5, q6⟩
      obtain ⟨t, ht, -⟩ := State.frames_cons hr
      show ({ U with heap := s₂.heap, slotsUsed := s₂.slotsUsed } : State) = { U.setFrames U.frames with heap := s₂.heap, slotsUsed := s₂.slotsUsed }
      rw [State.setFrames_self ht]
    subst hg
    refine Or.inl ⟨v, ⟨(({ U with heap := s₂.heap, slotsUsed := s₂.slotsUsed } : State).setVm s₂.vm), Ls ++ L, c0 + mc, s0 + ms⟩,
      ⟨X.admits, X.cas, X.clock, X.frames, X.room, X.hears, X.method, X.code, (X.here.setHeapUsed s₂.heap s₂.slotsUsed).setVm hW'.alike, X.tail, State.WarmedH.trans X.warmed hW', X.limits, X.bytes, X.same.trans (hsame.setVm s.vm)⟩,
      ⟨g, mk, s₂, L, rfl, rfl, hqc, rfl, hL, rfl, rfl⟩, ?_⟩
    show Steps p.tables e below _ ((({ U with heap := s₂.heap, slotsUsed := s₂.slotsUsed } : State).setVm s₂.vm).setTop { g with pc := g.pc + len₂, stack := v.toList ++ g.stack })
    rw [← hs₂]
    exact hsteps
  · obtain ⟨e2, q2, q3, q4, q5, q6⟩ := id hsm
    have e3 : s₂ = ({ (U.calling g mk a).setFrames s₂.frames with heap := s₂.heap, slotsUsed := s₂.slotsUsed } : State).setVm s₂.vm := by
      have : s₂ = ({ s₂ with vm := (U.calling g mk a).vm } : State).setVm s₂.vm := rfl
      rw [e2] at this
      exact this
    have hf₂ : s₂.frames = .throwing q :: .java g :: U.frames.tail := hend
    have hW' : U.WarmedH s₂.vm := hW₂
    have hs₂ : s₂ = ((({ U with heap := s₂.heap, slotsUsed := s₂.slotsUsed } : State).setVm s₂.vm).setTop g).pushFrame (.throwing q) := by
      refine e3.trans ?_
      rw [hf₂, State.calling_eq h.top, State.setFrames_setFrames, State.pushFrame, State.frames_setTop _ hr', State.setTop_of_frames _ hr', State.setFrames_setFrames, hr]
      rfl
    have hsame : U.sameButNew ({ U with heap := s₂.heap, slotsUsed := s₂.slotsUsed } : State) L mc ms := by
      refine ⟨?_, q2, q3, q4, q5, q6⟩
      obtain ⟨t, ht, -⟩ := State.frames_cons hr
      show ({ U with heap := s₂.heap, slotsUsed := s₂.slotsUsed } : State) = { U.setFrames U.frames with heap := s₂.heap, slotsUsed := s₂.slotsUsed }
      rw [State.setFrames_self ht]
    subst hg
    refine Or.inr ⟨q, ⟨(({ U with heap := s₂.heap, slotsUsed := s₂.slotsUsed } : State).setVm s₂.vm), Ls ++ L, c0 + mc, s0 + ms⟩,
      ⟨X.admits, X.cas, X.clock, X.frames, X.room, X.hears, X.method, X.code, (X.here.setHeapUsed s₂.heap s₂.slotsUsed).setVm hW'.alike, X.tail, State.WarmedH.trans X.warmed hW', X.limits, X.bytes, X.same.trans (hsame.setVm s.vm)⟩,
      ⟨g, mk, s₂, L, E, ce, rfl, rfl, hx, hce, hcv, hcl, rfl, hL, rfl, rfl⟩, ?_⟩
    show Steps p.tables e below _ (((({ U with heap := s₂.heap, slotsUsed := s₂.slotsUsed } : State).setVm s₂.vm).setTop g).pushFrame (.throwing q))
    rw [← hs₂]
    exact hsteps
end Payer
section Calls
variable {p : Program} {l : Launch} {e : Env} {R : Room} {s : State} {m : MethodId} {args : Array Value} {below : List Frame} {meth : Method} {c : Code} {T : State} {locs : List Loc} {cells slots : Nat}
theorem vx_callV (X : Stand p l e R s m args below meth c T locs cells slots) (hexec : p.tables.exec = Jvm.exec) {own C : String} {index : Nat} {y : MethodName} {bytes : ByteArray} {maxL : Nat} {ret : Option FieldType}
    (hown : s.vm.findClass own = some m.cls) (hlink : (Cond.methodLink own index y).before args s = true) (hinst : (Cond.instanceMethod y).before args s = true) (hsel : (Cond.selects C y y).before args s = true)
    (hcode : (Cond.code y bytes maxL ret).before args s = true) (hy : y.cls ≠ "java/lang/invoke/MethodHandle" ∧ y.cls ≠ "java/lang/invoke/VarHandle")
    {W9 : Nat} {Pre : Pt → Array Value → Prop} {Post : Pt → Array Value → Option Value → Pt → Prop} {PostX : Pt → Array Value → Addr → Pt → Prop} (hK : vx_Back l R p e below s args y 3 W9 Pre Post PostX)
    {b : Addr} {cellB : Cell} (hcell : T.heap[b]? = some cellB) (hobj : cellB.vm.isStatics = false) (hcls : s.vm.findClass C = some cellB.cls)
    {g : JFrame} (hg : g.method = m) (hsize : g.locals.size = c.maxLocals) {argsL rest : List Value} (hlen : ∀ sig, parseMethodDescriptor y.desc = some sig → argsL.length = sig.parameters.length)
    (hstack : g.stack = argsL.reverse ++ .ref b :: rest) (hW : 2 * g.monitorRoom + (rest.map fun v => v.category).sum ≤ W9) (hdg : decode c.code g.pc = .ok (.invokevirtual index, 3))
    (hpre : ∀ vm₁, s.WarmedH vm₁ → Pre ⟨T.setVm vm₁, locs, cells, slots⟩ (Value.ref b :: argsL).toArray) :
    (∃ (v : Option Value) (vm₁ : Vm) (B : Pt), s.WarmedH vm₁ ∧ Stand p l e R s m args below meth c B.U B.locs B.cells B.slots ∧ Post ⟨T.setVm vm₁, locs, cells, slots⟩ (Value.ref b :: argsL).toArray v B ∧
      ∀ target, Steps p.tables e below (B.U.setTop { g with pc := g.pc + 3, stack := v.toList ++ rest }) target → Steps p.tables e below (T.setTop g) target) ∨
    (∃ (q : Addr) (vm₁ : Vm) (B : Pt), s.WarmedH vm₁ ∧ Stand p l e R s m args below meth c B.U B.locs B.cells B.slots ∧ PostX ⟨T.setVm vm₁, locs, cells, slots⟩ (Value.ref b :: argsL).toArray q B ∧
      Steps p.tables e below (T.setTop g) ((B.U.setTop { g with stack := rest }).pushFrame (.throwing q))) := by
  obtain ⟨mk, methM, hnamed, hmethM, hstM, habM⟩ := Cond.instanceMethod_spec hinst
  obtain ⟨methM', cM, hmethM', -, -, -, -, -, -, hsigM⟩ := Cond.code_spec hnamed hcode
  cases hmethM.symm.trans hmethM'
  obtain ⟨c2, r2, m2, q1, q2, q3, q4, kP, hkP, hkPi⟩ := Cond.selects_spec hsel
  cases hcls.symm.trans q1
  cases (State.methodFound?_of_named hnamed hy).symm.trans q2
  cases hnamed.symm.trans q3
  have hselP : selectMethod e.platform s.vm cellB.cls mk = .method mk := by rw [Launch.admits_selectMethod X.admits]; exact q4
  obtain ⟨vm₁, X₁, hstep₁⟩ := X.invokevirtual hexec hown hlink hnamed hmethM hstM hkP hkPi hy (a := b) (cell := cellB) hcell
    (fun z h => by rw [h] at hobj; cases hobj) hselP hmethM habM hkP hkPi (g := g) hg (argsL := argsL) (rest := rest) (hlen _ hsigM) hstack hdg
  rcases hK m meth c ⟨T.setVm vm₁, locs, cells, slots⟩ { g with stack := rest } (.invokevirtual index) mk (Value.ref b :: argsL).toArray X₁ hg hsize hdg hW (X₁.named hnamed) (hpre vm₁ X₁.warmed) with ⟨v, B, X', hpost, hsteps⟩ | ⟨q, B, X', hpost, hsteps⟩
  · exact Or.inl ⟨v, vm₁, B, X₁.warmed, X', hpost, fun target h => hstep₁ _ fun acts => by rw [doInvoke_state]; exact hsteps.trans h⟩
  · exact Or.inr ⟨q, vm₁, B, X₁.warmed, X', hpost, hstep₁ _ fun acts => by rw [doInvoke_state]; exact hsteps⟩
theorem vx_callS (X : Stand p l e R s m args below meth c T locs cells slots) (hexec : p.tables.exec = Jvm.exec) {own : String} {index : Nat} {y : MethodName} {bytes : ByteArray} {maxL : Nat} {ret : Option FieldType}
    (hown : s.vm.findClass own = some m.cls) (hlink : (Cond.methodLink own index y).before args s = true) (hstat : (Cond.static y).before args s = true) (hinit : (Cond.initialized y.cls).before args s = true)
    (hcode : (Cond.code y bytes maxL ret).before args s = true) (hy : y.cls ≠ "java/lang/invoke/MethodHandle" ∧ y.cls ≠ "java/lang/invoke/VarHandle")
    {W9 : Nat} {Pre : Pt → Array Value → Prop} {Post : Pt → Array Value → Option Value → Pt → Prop} {PostX : Pt → Array Value → Addr → Pt → Prop} (hK : vx_Back l R p e below s args y 3 W9 Pre Post PostX)
    {g : JFrame} (hg : g.method = m) (hsize : g.locals.size = c.maxLocals) {argsL rest : List Value} (hlen : ∀ sig, parseMethodDescriptor y.desc = some sig → argsL.length = sig.parameters.length)
    (hstack : g.stack = argsL.reverse ++ rest) (hW : 2 * g.monitorRoom + (rest.map fun v => v.category).sum ≤ W9) (hdg : decode c.code g.pc = .ok (.invokestatic index, 3))
    (hpre : ∀ vm₁, s.WarmedH vm₁ → Pre ⟨T.setVm vm₁, locs, cells, slots⟩ argsL.toArray) :
    (∃ (v : Option Value) (vm₁ : Vm) (B : Pt), s.WarmedH vm₁ ∧ Stand p l e R s m args below meth c B.U B.locs B.cells B.slots ∧ Post ⟨T.setVm vm₁, locs, cells, slots⟩ argsL.toArray v B ∧
      ∀ target, Steps p.tables e below (B.U.setTop { g with pc := g.pc + 3, stack := v.toList ++ rest }) target → Steps p.tables e below (T.setTop g) target) ∨
    (∃ (q : Addr) (vm₁ : Vm) (B : Pt), s.WarmedH vm₁ ∧ Stand p l e R s m args below meth c B.U B.locs B.cells B.slots ∧ PostX ⟨T.setVm vm₁, locs, cells, slots⟩ argsL.toArray q B ∧
      Steps p.tables e below (T.setTop g) ((B.U.setTop { g with stack := rest }).pushFrame (.throwing q))) := by
  obtain ⟨mk, hnamed⟩ := Cond.code_named hcode
  obtain ⟨methM, cM, hmethM, -, -, -, -, -, -, hsigM⟩ := Cond.code_spec hnamed hcode
  have hstatic : methM.isStatic = true := Cond.static_spec hnamed hmethM hstat
  obtain ⟨kP, hkP, -⟩ := className_of_methodNamed hnamed
  have hinitP : kP.init = .initialized := Cond.initialized_spec (findClass_of_methodNamed hnamed) hkP hinit
  obtain ⟨vm₁, X₁, hstep₁⟩ := X.invokestatic hexec hown hlink hnamed hmethM hstatic hkP hinitP hy (g := g) hg (argsL := argsL) (rest := rest) (hlen _ hsigM) hstack hdg
  rcases hK m meth c ⟨T.setVm vm₁, locs, cells, slots⟩ { g with stack := rest } (.invokestatic index) mk argsL.toArray X₁ hg hsize hdg hW (X₁.named hnamed) (hpre vm₁ X₁.warmed) with ⟨v, B, X', hpost, hsteps⟩ | ⟨q, B, X', hpost, hsteps⟩
  · exact Or.inl ⟨v, vm₁, B, X₁.warmed, X', hpost, fun target h => hstep₁ _ fun acts => by rw [doInvoke_state]; exact hsteps.trans h⟩
  · exact Or.inr ⟨q, vm₁, B, X₁.warmed, X', hpost, hstep₁ _ fun acts => by rw [doInvoke_state]; exact hsteps⟩
end Calls
theorem vx_cls {s : State} {T : State} {vm₁ : Vm} {E : String} {k : ClassId} (hW : s.WarmedH vm₁) (h : (T.setVm vm₁).vm.findClass E = some k) : s.vm.findClass E = some k := by
  have h1 : vm₁.findClass E = some k := h
  rw [hW.alike.findClass] at h1
  exact h1
/-- the method's frame g, with q thrown over it -/
def vx_W (p : Program) (l : Launch) (e : Env) (R : Room) (s : State) (m : MethodId) (args : Array Value) (below : List Frame) (meth : Method) (c : Code) (H : Heap) (locs : List Loc) (cells slots : Nat) (Q : State → Prop) (g : JFrame) (q : Addr) : Prop :=
  ∀ T : State, T.heap = H → Stand p l e R s m args below meth c T locs cells slots → ∃ t, Steps p.tables e below ((T.setTop g).pushFrame (.throwing q)) t ∧ Q t
def vx_Run (p : Program) (l : Launch) (e : Env) (R : Room) (s : State) (m : MethodId) (args : Array Value) (below : List Frame) (meth : Method) (c : Code) (H : Heap) (locs : List Loc) (cells slots mc ms : Nat) (g : JFrame) (rest : List Value) (Qa : State → Outcome → State → Prop) (XC : String → State → State → Prop) (free : Addr → Prop) : Prop :=
  ∀ T : State, T.heap = H → Stand p l e R s m args below meth c T locs cells slots →
    (∃ (v : Option Value) (st₀ t T' : State) (L : List Loc), st₀.heap = H ∧ Stand p l e R s m args below meth c T' (locs ++ L) (cells + mc) (slots + ms) ∧ (∀ q ∈ L, free q.base) ∧ T'.heap = t.heap ∧ T'.vm = t.vm ∧ Qa st₀ (.returned v) t ∧
      Goes p e below T g T' { g with pc := g.pc + 3, stack := v.toList ++ rest }) ∨
    (∃ (q : Addr) (st₀ t T' : State) (L : List Loc) (E : String) (ce : Cell), st₀.heap = H ∧ Stand p l e R s m args below meth c T' (locs ++ L) (cells + mc) (slots + ms) ∧ (∀ z ∈ L, free z.base) ∧ T'.heap = t.heap ∧ T'.vm = t.vm ∧ XC E st₀ t ∧ t.heap[q]? = some ce ∧ ce.vm = .none ∧ s.vm.findClass E = some ce.cls ∧
      Steps p.tables e below (T.setTop g) ((T'.setTop { g with stack := rest }).pushFrame (.throwing q)))
def vx_X {S : Type} (px : S → Prop) (B : String → S → State → Prop) (A : Nat → Prop) : String → State → State → Prop := fun E st t => ∃ u : S, px u ∧ B E u t ∧ va_F A st t
section Runs
variable {p : Program} {l : Launch} {e : Env} {R : Room} {s : State} {m : MethodId} {args : Array Value} {below : List Frame} {meth : Method} {c : Code} {H : Heap} {locs : List Loc} {cells slots : Nat}
variable {y : MethodName} {bytes cc : ByteArray} {maxL nL mc ms n index : Nat} {ret : Option FieldType} {ws : List Cond} {rm : Room} {Pc : Array Value → State → Prop} {Qc : Array Value → State → Outcome → State → Prop} {XC : String → State → State → Prop} {free : Addr → Prop} {Ts : List Cond} {own C : String} {b : Addr} {As rest : List Value} {g : JFrame}
theorem vx_callBack (cb : CallB R s args own index y bytes maxL ret ws rm mc ms n) (hM : vx_Met l y ws rm Pc Qc XC mc ms free) (hbl : FrameBlind Pc) : vx_Back l R p e below s args y 3 8 (PreOf R mc ms Pc) (PostOf Qc mc ms free) (vx_Post XC mc ms free) := by
  obtain ⟨hrc, hrs, hfr, hlo, hws, hcw, -, hini, -⟩ := cb
  exact vx_back (bytes := bytes) (maxL := maxL) (ret := ret) hM hbl hrc hrs hfr hlo hws hcw (fun a' U hW => word_at hW (Or.inl (by first | rfl | simp [Cond.onTables, Cond.keeps, Cond.steady])) hini)
theorem vx_runV (S : CallFix p m c cc nL s args Ts own) (hM : vx_Met l y ws rm Pc Qc XC mc ms free) (cw : CallW R s args own C index y bytes maxL ret ws rm mc ms n) (hp : PreV s H C b Pc As)
    (hg : g.method = m) (hn : As.length = n) (hsize : g.locals.size = nL) (hstack : g.stack = As.reverse ++ .ref b :: rest) (hW : 2 * g.monitorRoom + (rest.map fun v => v.category).sum ≤ 8) (hdg : decode cc g.pc = .ok (.invokevirtual index, 3)) (hf : cells + mc ≤ R.cells ∧ slots + ms ≤ R.slots) :
    vx_Run p l e R s m args below meth c H locs cells slots mc ms g rest (Qc (Value.ref b :: As).toArray) XC free := by
  have hK : vx_Back l R p e below s args y 3 8 (PreOf R mc ms Pc) (PostOf Qc mc ms free) (vx_Post XC mc ms free) := vx_callBack cw.1 hM hp.1
  obtain ⟨⟨-, -, -, -, -, -, hcode, -, hy, hlen, hl⟩, hin, hse⟩ := cw
  obtain ⟨hx, hb, hml, ho, -⟩ := S
  obtain ⟨-, ⟨cellB, hcB, hoB, hclB⟩, hPc⟩ := hp
  intro T hT X
  rcases vx_callV X hx (C := C) (bytes := bytes) (maxL := maxL) (ret := ret) ho hl hin hse hcode hy hK (by rw [hT]; exact hcB) hoB hclB hg (hsize.trans hml.symm) (argsL := As) (rest := rest) (fun sig h => hn.trans (hlen sig h)) hstack hW (by rw [hb]; exact hdg)
    (fun vm₁ hW₁ => ⟨hf.1, hf.2, hPc (T.setVm vm₁) hT hW₁⟩) with ⟨v, vm₁, ⟨U', l2, c2, s2⟩, hW₁, X', ⟨g', mk, t, L, e1, e2, hq, h1, hL, h2, h3⟩, st⟩ | ⟨q, vm₁, ⟨U', l2, c2, s2⟩, hW₁, X', ⟨g', mk, t, L, E, ce, e1, e2, hq, hce, hcv, hcl, h1, hL, h2, h3⟩, st⟩
  · dsimp only [Pt.U, Pt.locs, Pt.cells, Pt.slots] at X' e1 e2 h1 h2 h3 st
    subst h1; subst h2; subst h3
    exact Or.inl ⟨v, (T.setVm vm₁).calling g' mk (Value.ref b :: As).toArray, t, U', L, hT, X', hL, e1, e2, hq, st⟩
  · dsimp only [Pt.U, Pt.locs, Pt.cells, Pt.slots] at X' e1 e2 h1 h2 h3 st hcl
    subst h1; subst h2; subst h3
    exact Or.inr ⟨q, (T.setVm vm₁).calling g' mk (Value.ref b :: As).toArray, t, U', L, E, ce, hT, X', hL, e1, e2, hq, hce, hcv, vx_cls hW₁ hcl, st⟩
theorem vx_runS (S : CallFix p m c cc nL s args Ts own) (hM : vx_Met l y ws rm Pc Qc XC mc ms free) (cw : CallB R s args own index y bytes maxL ret ws rm mc ms n ∧ (Cond.static y).before args s = true) (hp : PreS s H Pc As)
    (hg : g.method = m) (hn : As.length = n) (hsize : g.locals.size = nL) (hstack : g.stack = As.reverse ++ rest) (hW : 2 * g.monitorRoom + (rest.map fun v => v.category).sum ≤ 8) (hdg : decode cc g.pc = .ok (.invokestatic index, 3)) (hf : cells + mc ≤ R.cells ∧ slots + ms ≤ R.slots) :
    vx_Run p l e R s m args below meth c H locs cells slots mc ms g rest (Qc As.toArray) XC free := by
  have hK : vx_Back l R p e below s args y 3 8 (PreOf R mc ms Pc) (PostOf Qc mc ms free) (vx_Post XC mc ms free) := vx_callBack cw.1 hM hp.1
  obtain ⟨⟨-, -, -, -, -, -, hcode, hini, hy, hlen, hl⟩, hstt⟩ := cw
  obtain ⟨hx, hb, hml, ho, -⟩ := S
  intro T hT X
  rcases vx_callS X hx (bytes := bytes) (maxL := maxL) (ret := ret) ho hl hstt hini hcode hy hK hg (hsize.trans hml.symm) (argsL := As) (rest := rest) (fun sig h => hn.trans (hlen sig h)) hstack hW (by rw [hb]; exact hdg)
    (fun vm₁ hW₁ => ⟨hf.1, hf.2, hp.2 (T.setVm vm₁) hT hW₁⟩) with ⟨v, vm₁, ⟨U', l2, c2, s2⟩, hW₁, X', ⟨g', mk, t, L, e1, e2, hq, h1, hL, h2, h3⟩, st⟩ | ⟨q, vm₁, ⟨U', l2, c2, s2⟩, hW₁, X', ⟨g', mk, t, L, E, ce, e1, e2, hq, hce, hcv, hcl, h1, hL, h2, h3⟩, st⟩
  · dsimp only [Pt.U, Pt.locs, Pt.cells, Pt.slots] at X' e1 e2 h1 h2 h3 st
    subst h1; subst h2; subst h3
    exact Or.inl ⟨v, (T.setVm vm₁).calling g' mk As.toArray, t, U', L, hT, X', hL, e1, e2, hq, st⟩
  · dsimp only [Pt.U, Pt.locs, Pt.cells, Pt.slots] at X' e1 e2 h1 h2 h3 st hcl
    subst h1; subst h2; subst h3
    exact Or.inr ⟨q, (T.setVm vm₁).calling g' mk As.toArray, t, U', L, E, ce, hT, X', hL, e1, e2, hq, hce, hcv, vx_cls hW₁ hcl, st⟩
end Runs
section Rows
variable {p : Program} {l : Launch} {e : Env} {R : Room} {s : State} {m : MethodId} {args : Array Value} {below : List Frame} {meth : Method} {c : Code} {H : Heap} {locs : List Loc} {cells slots : Nat} {Q : State → Prop}
variable {mc ms : Nat} {free : Addr → Prop} {A0 A1 : Nat → Prop} {H0 : Heap} {a : Array Value} {pc : Nat} {ls : Array Slot} {st0 rest : List Value}
theorem vx_keep {st₀ t T' : State} {L : List Loc} (h0 : st₀.heap = H) (e1 : T'.heap = t.heap) (hS : va_S A0 H0 H locs) (hA : ∀ q, q < H.size → A1 q → A0 q) (hf : ∀ q, free q → A0 q) (hL : ∀ q ∈ L, free q.base) (hF : va_F A1 st₀ t) :
    H.size ≤ T'.heap.size ∧ (∀ q : Nat, q < H.size → ¬ A1 q → T'.heap[q]? = H[q]?) ∧ va_S A0 H0 T'.heap (locs ++ L) := by
  obtain ⟨hz, hk⟩ := hF
  rw [h0] at hz hk
  exact ⟨by rw [e1]; exact hz, fun q h1 h2 => by rw [e1]; exact hk q h1 h2,
    ⟨Nat.le_trans hS.1 (by rw [e1]; exact hz), fun q h1 h2 => by rw [e1, hk q (Nat.lt_of_lt_of_le h1 hS.1) (fun z => h2 (hA q (Nat.lt_of_lt_of_le h1 hS.1) z))]; exact hS.2.1 q h1 h2, fun q hq => by
      rcases List.mem_append.mp hq with h | h
      · exact hS.2.2 q h
      · exact hf _ (hL q h)⟩⟩
theorem vx_calli {S SX : Type} {post : Int32 → S → Prop} {px : SX → Prop} {B : S → State → Prop} {BX : String → SX → State → Prop} {AX : Nat → Prop} (hr : vx_Run p l e R s m args below meth c H locs cells slots mc ms (F0 m pc ls st0) rest (va_Qi post B A1 a) (vx_X px BX AX) free) (hS : va_S A0 H0 H locs) (hA : ∀ q, q < H.size → A1 q → A0 q) (hf : ∀ q, free q → A0 q) (hAX : ∀ q, q < H.size → AX q → A0 q)
    (kx : ∀ (E : String) (ce : Cell) (q9 : Addr) (u : SX) (t : State) (H1 : Heap) (locs1 : List Loc), t.heap = H1 → s.vm.Alike t.vm → px u → BX E u t → H.size ≤ H1.size → (∀ q : Nat, q < H.size → ¬ AX q → H1[q]? = H[q]?) → va_S A0 H0 H1 locs1 → H1[q9]? = some ce → ce.vm = .none → s.vm.findClass E = some ce.cls → vx_W p l e R s m args below meth c H1 locs1 (cells + mc) (slots + ms) Q (F0 m pc ls rest) q9)
    (kk : ∀ (r : Int32) (u : S) (t : State) (H1 : Heap) (locs1 : List Loc), t.heap = H1 → s.vm.Alike t.vm → post r u → B u t → H.size ≤ H1.size → (∀ q : Nat, q < H.size → ¬ A1 q → H1[q]? = H[q]?) → va_S A0 H0 H1 locs1 → W p l e R s m args below meth c H1 locs1 (cells + mc) (slots + ms) Q (F0 m (pc + 3) ls (.int r :: rest))) : W p l e R s m args below meth c H locs cells slots Q (F0 m pc ls st0) := by
  intro T hT X
  rcases hr T hT X with ⟨v, st₀, t, T', L, h0, X', hL, e1, e2, ⟨⟨r, u, hv, hp, hb⟩, hF⟩, st⟩ | ⟨q, st₀, t, T', L, E, ce, h0, X', hL, e1, e2, ⟨u, hp, hb, hF⟩, hce, hcv, hcl, st⟩
  · cases hv
    obtain ⟨k1, k2, k3⟩ := vx_keep h0 e1 hS hA hf hL hF
    obtain ⟨t2, a1, b1⟩ := kk r u t T'.heap (locs ++ L) e1.symm (by rw [← e2]; exact X'.warmed.alike) hp hb k1 k2 k3 T' rfl X'
    exact ⟨t2, st t2 a1, b1⟩
  · obtain ⟨k1, k2, k3⟩ := vx_keep h0 e1 hS hAX hf hL hF
    obtain ⟨t2, a1, b1⟩ := kx E ce q u t T'.heap (locs ++ L) e1.symm (by rw [← e2]; exact X'.warmed.alike) hp hb k1 k2 k3 (by rw [e1]; exact hce) hcv hcl T' rfl X'
    exact ⟨t2, st.trans a1, b1⟩
theorem vx_calll {S SX : Type} {post : Int64 → S → Prop} {px : SX → Prop} {B : S → State → Prop} {BX : String → SX → State → Prop} {AX : Nat → Prop} (hr : vx_Run p l e R s m args below meth c H locs cells slots mc ms (F0 m pc ls st0) rest (va_Ql post B A1 a) (vx_X px BX AX) free) (hS : va_S A0 H0 H locs) (hA : ∀ q, q < H.size → A1 q → A0 q) (hf : ∀ q, free q → A0 q) (hAX : ∀ q, q < H.size → AX q → A0 q)
    (kx : ∀ (E : String) (ce : Cell) (q9 : Addr) (u : SX) (t : State) (H1 : Heap) (locs1 : List Loc), t.heap = H1 → s.vm.Alike t.vm → px u → BX E u t → H.size ≤ H1.size → (∀ q : Nat, q < H.size → ¬ AX q → H1[q]? = H[q]?) → va_S A0 H0 H1 locs1 → H1[q9]? = some ce → ce.vm = .none → s.vm.findClass E = some ce.cls → vx_W p l e R s m args below meth c H1 locs1 (cells + mc) (slots + ms) Q (F0 m pc ls rest) q9)
    (kk : ∀ (r : Int64) (u : S) (t : State) (H1 : Heap) (locs1 : List Loc), t.heap = H1 → s.vm.Alike t.vm → post r u → B u t → H.size ≤ H1.size → (∀ q : Nat, q < H.size → ¬ A1 q → H1[q]? = H[q]?) → va_S A0 H0 H1 locs1 → W p l e R s m args below meth c H1 locs1 (cells + mc) (slots + ms) Q (F0 m (pc + 3) ls (.long r :: rest))) : W p l e R s m args below meth c H locs cells slots Q (F0 m pc ls st0) := by
  intro T hT X
  rcases hr T hT X with ⟨v, st₀, t, T', L, h0, X', hL, e1, e2, ⟨⟨r, u, hv, hp, hb⟩, hF⟩, st⟩ | ⟨q, st₀, t, T', L, E, ce, h0, X', hL, e1, e2, ⟨u, hp, hb, hF⟩, hce, hcv, hcl, st⟩
  · cases hv
    obtain ⟨k1, k2, k3⟩ := vx_keep h0 e1 hS hA hf hL hF
    obtain ⟨t2, a1, b1⟩ := kk r u t T'.heap (locs ++ L) e1.symm (by rw [← e2]; exact X'.warmed.alike) hp hb k1 k2 k3 T' rfl X'
    exact ⟨t2, st t2 a1, b1⟩
  · obtain ⟨k1, k2, k3⟩ := vx_keep h0 e1 hS hAX hf hL hF
    obtain ⟨t2, a1, b1⟩ := kx E ce q u t T'.heap (locs ++ L) e1.symm (by rw [← e2]; exact X'.warmed.alike) hp hb k1 k2 k3 (by rw [e1]; exact hce) hcv hcl T' rfl X'
    exact ⟨t2, st.trans a1, b1⟩
theorem vx_callf {S SX : Type} {post : UInt32 → S → Prop} {px : SX → Prop} {B : S → State → Prop} {BX : String → SX → State → Prop} {AX : Nat → Prop} (hr : vx_Run p l e R s m args below meth c H locs cells slots mc ms (F0 m pc ls st0) rest (va_Qf post B A1 a) (vx_X px BX AX) free) (hS : va_S A0 H0 H locs) (hA : ∀ q, q < H.size → A1 q → A0 q) (hf : ∀ q, free q → A0 q) (hAX : ∀ q, q < H.size → AX q → A0 q)
    (kx : ∀ (E : String) (ce : Cell) (q9 : Addr) (u : SX) (t : State) (H1 : Heap) (locs1 : List Loc), t.heap = H1 → s.vm.Alike t.vm → px u → BX E u t → H.size ≤ H1.size → (∀ q : Nat, q < H.size → ¬ AX q → H1[q]? = H[q]?) → va_S A0 H0 H1 locs1 → H1[q9]? = some ce → ce.vm = .none → s.vm.findClass E = some ce.cls → vx_W p l e R s m args below meth c H1 locs1 (cells + mc) (slots + ms) Q (F0 m pc ls rest) q9)
    (kk : ∀ (r : UInt32) (u : S) (t : State) (H1 : Heap) (locs1 : List Loc), t.heap = H1 → s.vm.Alike t.vm → post r u → B u t → H.size ≤ H1.size → (∀ q : Nat, q < H.size → ¬ A1 q → H1[q]? = H[q]?) → va_S A0 H0 H1 locs1 → W p l e R s m args below meth c H1 locs1 (cells + mc) (slots + ms) Q (F0 m (pc + 3) ls (.float r :: rest))) : W p l e R s m args below meth c H locs cells slots Q (F0 m pc ls st0) := by
  intro T hT X
  rcases hr T hT X with ⟨v, st₀, t, T', L, h0, X', hL, e1, e2, ⟨⟨r, u, hv, hp, hb⟩, hF⟩, st⟩ | ⟨q, st₀, t, T', L, E, ce, h0, X', hL, e1, e2, ⟨u, hp, hb, hF⟩, hce, hcv, hcl, st⟩
  · cases hv
    obtain ⟨k1, k2, k3⟩ := vx_keep h0 e1 hS hA hf hL hF
    obtain ⟨t2, a1, b1⟩ := kk r u t T'.heap (locs ++ L) e1.symm (by rw [← e2]; exact X'.warmed.alike) hp hb k1 k2 k3 T' rfl X'
    exact ⟨t2, st t2 a1, b1⟩
  · obtain ⟨k1, k2, k3⟩ := vx_keep h0 e1 hS hAX hf hL hF
    obtain ⟨t2, a1, b1⟩ := kx E ce q u t T'.heap (locs ++ L) e1.symm (by rw [← e2]; exact X'.warmed.alike) hp hb k1 k2 k3 (by rw [e1]; exact hce) hcv hcl T' rfl X'
    exact ⟨t2, st.trans a1, b1⟩
theorem vx_calld {S SX : Type} {post : UInt64 → S → Prop} {px : SX → Prop} {B : S → State → Prop} {BX : String → SX → State → Prop} {AX : Nat → Prop} (hr : vx_Run p l e R s m args below meth c H locs cells slots mc ms (F0 m pc ls st0) rest (va_Qd post B A1 a) (vx_X px BX AX) free) (hS : va_S A0 H0 H locs) (hA : ∀ q, q < H.size → A1 q → A0 q) (hf : ∀ q, free q → A0 q) (hAX : ∀ q, q < H.size → AX q → A0 q)
    (kx : ∀ (E : String) (ce : Cell) (q9 : Addr) (u : SX) (t : State) (H1 : Heap) (locs1 : List Loc), t.heap = H1 → s.vm.Alike t.vm → px u → BX E u t → H.size ≤ H1.size → (∀ q : Nat, q < H.size → ¬ AX q → H1[q]? = H[q]?) → va_S A0 H0 H1 locs1 → H1[q9]? = some ce → ce.vm = .none → s.vm.findClass E = some ce.cls → vx_W p l e R s m args below meth c H1 locs1 (cells + mc) (slots + ms) Q (F0 m pc ls rest) q9)
    (kk : ∀ (r : UInt64) (u : S) (t : State) (H1 : Heap) (locs1 : List Loc), t.heap = H1 → s.vm.Alike t.vm → post r u → B u t → H.size ≤ H1.size → (∀ q : Nat, q < H.size → ¬ A1 q → H1[q]? = H[q]?) → va_S A0 H0 H1 locs1 → W p l e R s m args below meth c H1 locs1 (cells + mc) (slots + ms) Q (F0 m (pc + 3) ls (.double r :: rest))) : W p l e R s m args below meth c H locs cells slots Q (F0 m pc ls st0) := by
  intro T hT X
  rcases hr T hT X with ⟨v, st₀, t, T', L, h0, X', hL, e1, e2, ⟨⟨r, u, hv, hp, hb⟩, hF⟩, st⟩ | ⟨q, st₀, t, T', L, E, ce, h0, X', hL, e1, e2, ⟨u, hp, hb, hF⟩, hce, hcv, hcl, st⟩
  · cases hv
    obtain ⟨k1, k2, k3⟩ := vx_keep h0 e1 hS hA hf hL hF
    obtain ⟨t2, a1, b1⟩ := kk r u t T'.heap (locs ++ L) e1.symm (by rw [← e2]; exact X'.warmed.alike) hp hb k1 k2 k3 T' rfl X'
    exact ⟨t2, st t2 a1, b1⟩
  · obtain ⟨k1, k2, k3⟩ := vx_keep h0 e1 hS hAX hf hL hF
    obtain ⟨t2, a1, b1⟩ := kx E ce q u t T'.heap (locs ++ L) e1.symm (by rw [← e2]; exact X'.warmed.alike) hp hb k1 k2 k3 (by rw [e1]; exact hce) hcv hcl T' rfl X'
    exact ⟨t2, st.trans a1, b1⟩
theorem vx_callv {S SX : Type} {post : S → Prop} {px : SX → Prop} {B : S → State → Prop} {BX : String → SX → State → Prop} {AX : Nat → Prop} (hr : vx_Run p l e R s m args below meth c H locs cells slots mc ms (F0 m pc ls st0) rest (va_Qv post B A1 a) (vx_X px BX AX) free) (hS : va_S A0 H0 H locs) (hA : ∀ q, q < H.size → A1 q → A0 q) (hf : ∀ q, free q → A0 q) (hAX : ∀ q, q < H.size → AX q → A0 q)
    (kx : ∀ (E : String) (ce : Cell) (q9 : Addr) (u : SX) (t : State) (H1 : Heap) (locs1 : List Loc), t.heap = H1 → s.vm.Alike t.vm → px u → BX E u t → H.size ≤ H1.size → (∀ q : Nat, q < H.size → ¬ AX q → H1[q]? = H[q]?) → va_S A0 H0 H1 locs1 → H1[q9]? = some ce → ce.vm = .none → s.vm.findClass E = some ce.cls → vx_W p l e R s m args below meth c H1 locs1 (cells + mc) (slots + ms) Q (F0 m pc ls rest) q9)
    (kk : ∀ (u : S) (t : State) (H1 : Heap) (locs1 : List Loc), t.heap = H1 → s.vm.Alike t.vm → post u → B u t → H.size ≤ H1.size → (∀ q : Nat, q < H.size → ¬ A1 q → H1[q]? = H[q]?) → va_S A0 H0 H1 locs1 → W p l e R s m args below meth c H1 locs1 (cells + mc) (slots + ms) Q (F0 m (pc + 3) ls (rest))) : W p l e R s m args below meth c H locs cells slots Q (F0 m pc ls st0) := by
  intro T hT X
  rcases hr T hT X with ⟨v, st₀, t, T', L, h0, X', hL, e1, e2, ⟨⟨u, hv, hp, hb⟩, hF⟩, st⟩ | ⟨q, st₀, t, T', L, E, ce, h0, X', hL, e1, e2, ⟨u, hp, hb, hF⟩, hce, hcv, hcl, st⟩
  · cases hv
    obtain ⟨k1, k2, k3⟩ := vx_keep h0 e1 hS hA hf hL hF
    obtain ⟨t2, a1, b1⟩ := kk u t T'.heap (locs ++ L) e1.symm (by rw [← e2]; exact X'.warmed.alike) hp hb k1 k2 k3 T' rfl X'
    exact ⟨t2, st t2 a1, b1⟩
  · obtain ⟨k1, k2, k3⟩ := vx_keep h0 e1 hS hAX hf hL hF
    obtain ⟨t2, a1, b1⟩ := kx E ce q u t T'.heap (locs ++ L) e1.symm (by rw [← e2]; exact X'.warmed.alike) hp hb k1 k2 k3 (by rw [e1]; exact hce) hcv hcl T' rfl X'
    exact ⟨t2, st.trans a1, b1⟩
/-- caught by the row x of this method's table; the rows ahead don't take it -/
theorem vx_catch {own name : String} {E : String} {ce : Cell} {q : Addr} (hown : s.vm.findClass own = some m.cls) (pre : List ExceptionTableEntry) (x : ExceptionTableEntry) (suf : List ExceptionTableEntry) (hsplit : c.exceptionTable.toList = pre ++ x :: suf)
    (hpass : ∀ z ∈ pre, covers z pc = false ∨ (z.catchType ≠ 0 ∧ ∃ nm : String, (Cond.classLink own z.catchType nm).before args s = true ∧ va_Nc E nm s)) (hx : covers x pc = true) (h0 : x.catchType ≠ 0)
    (hlink : (Cond.classLink own x.catchType name).before args s = true) (hcast : (Cond.castable E name).before args s = true) (hcell : H[q]? = some ce) (hv : ce.vm = .none) (hcl : s.vm.findClass E = some ce.cls)
    (kk : W p l e R s m args below meth c H locs cells slots Q (F0 m x.handlerPc ls [.ref q])) : vx_W p l e R s m args below meth c H locs cells slots Q (F0 m pc ls rest) q := by
  intro T hT X
  have hpl : e.platform.magicAccessors = ({} : Platform).magicAccessors := by rw [X.admits.platform]
  obtain ⟨c3, c4, hc3, hc4, hasg⟩ := Cond.castable_spec hcast
  cases Option.some.inj (hc3.symm.trans hcl)
  obtain ⟨c5, hc5, hcl5⟩ := Cond.classLink_spec hown hlink e.platform hpl
  cases Option.some.inj (hc4.symm.trans hc5)
  obtain ⟨vm', X', st⟩ := X.thenCaughtThrough q (g := F0 m pc ls rest) rfl (Steps.refl _) (by rw [hT]; exact hcell) (by rw [hv]; rfl) (by obtain ⟨k9, h9, -⟩ := Vm.findClass_spec hcl; exact ⟨k9, h9⟩) pre x suf hsplit
    (fun z hz => by
      rcases hpass z hz with h | ⟨hz0, nm, hl1, hn1⟩
      · exact Or.inl h
      · obtain ⟨c6, hc6, hcl6⟩ := Cond.classLink_spec hown hl1 e.platform hpl
        obtain ⟨a8, b8, h1, h2, h3⟩ := hn1
        cases Option.some.inj (h1.symm.trans hcl)
        cases Option.some.inj (h2.symm.trans hc6)
        exact Or.inr ⟨hz0, _, hcl6, h3⟩) hx (Or.inr ⟨h0, c4, hcl5, hasg⟩)
  obtain ⟨t, a1, b1⟩ := kk (T.setVm vm') hT X'
  exact ⟨t, st.trans a1, b1⟩
end Rows
section Ends
variable {p : Program} {l : Launch} {e : Env} {R : Room} {s : State} {m : MethodId} {args : Array Value} {below : List Frame} {meth : Method} {c : Code} {H : Heap} {locs : List Loc} {cells slots : Nat} {Q : State → Prop}
variable {mc ms : Nat} {free : Addr → Prop} {A0 A1 : Nat → Prop} {H0 : Heap} {a : Array Value} {ls : Array Slot} {st0 rest : List Value}
variable {Qc : Array Value → State → Outcome → State → Prop} {XC : String → State → State → Prop}
/-- what a body that may throw owes at its end -/
def vx_MQ (below : List Frame) (Qc : Array Value → State → Outcome → State → Prop) (XC : String → State → State → Prop) (a : Array Value) (s : State) (mc ms : Nat) (free : Addr → Prop) : State → Prop := fun t =>
  ∃ o, t.status = .running ∧ Ended t below o ∧ vx_Q Qc XC mc ms free a s o t
theorem vx_ret {g : JFrame} {mc ms : Nat} (k : W p l e R s m args below meth c H locs cells slots (MQ below Qc args s mc ms free) g) : W p l e R s m args below meth c H locs cells slots (vx_MQ below Qc XC args s mc ms free) g := by
  intro T hT X
  obtain ⟨t, a1, o, b1, b2, b3, b4⟩ := k T hT X
  exact ⟨t, a1, o, b1, b2, Or.inl ⟨b3, b4⟩⟩
/-- not caught here: it goes on to the caller -/
theorem vx_widen {g : JFrame} {q : Addr} {k n : Nat} (h1 : cells ≤ k) (h2 : slots ≤ n) (kk : vx_W p l e R s m args below meth c H locs k n Q g q) : vx_W p l e R s m args below meth c H locs cells slots Q g q := fun T hT X => kk T hT (stand_widen X h1 h2)
theorem vx_out {pc : Nat} {E : String} {ce : Cell} {q : Addr} {mc ms : Nat} (hout : ∀ x ∈ c.exceptionTable.toList, covers x pc = false) (hlocks : meth.locks = false) (hcell : H[q]? = some ce) (hv : ce.vm = .none) (hcl : s.vm.findClass E = some ce.cls)
    (hx : ∀ t : State, t.heap = H → s.vm.Alike t.vm → XC E s t) (hf : ∀ z ∈ locs, free z.base) (hc : cells ≤ mc) (hs : slots ≤ ms) :
    vx_W p l e R s m args below meth c H locs cells slots (vx_MQ below Qc XC args s mc ms free) (F0 m pc ls rest) q := by
  intro T hT X
  obtain ⟨st1, hrun, hend, hW, hsm⟩ := X.leaveThrown q (g := F0 m pc ls rest) rfl rfl rfl hout hlocks
  have hcell9 : (T.setFrames (.throwing q :: below)).heap[q]? = some ce := by
    show T.heap[q]? = some ce
    rw [hT]; exact hcell
  exact ⟨_, st1, .threw q, hrun, hend, Or.inr ⟨q, rfl, E, ce, locs, hx _ hT hW.alike, hcell9, hv, hcl, hW, hsm.mono hc hs, hf⟩⟩
theorem vx_frame {U : State} {k n : Nat} (h : s.sameButNew ({ U with vm := s.vm } : State) locs k n) : s.heap.size ≤ U.heap.size ∧ ∀ q : Nat, q < s.heap.size → (∀ z ∈ locs, z.base ≠ q) → U.heap[q]? = s.heap[q]? := by
  obtain ⟨-, h2, -, -, -, h6⟩ := h
  refine ⟨h2, fun q hq hz => ?_⟩
  obtain ⟨c9, e1, e2, e3, e4⟩ := h6 q _ (Array.getElem?_eq_getElem hq)
  have hs : c9.slots = (s.heap[q]).slots := Array.ext_getElem? fun i => e4 i fun hm => hz _ hm rfl
  have h9 : c9 = s.heap[q] := by
    rw [hs] at e2
    exact e2
  have e5 : U.heap[q]? = some c9 := e1
  rw [e5, h9, Array.getElem?_eq_getElem hq]
/-- the words of a throw but the four that speak of the heap -/
def vx_no (w : Cond) : Bool := decide (w ≠ .isRef (.static Bundle.tN "UNASSIGNED_STACK" Bundle.steD)) && decide (w ≠ .isRef (.static Bundle.tN "SUPPRESSED_SENTINEL" Bundle.listD)) && decide (w ≠ .laysStatic Bundle.tN "UNASSIGNED_STACK" Bundle.steD) && decide (w ≠ .laysStatic Bundle.tN "SUPPRESSED_SENTINEL" Bundle.listD)
def vx_at0 (own : String) (ic : Nat) (X : String) (names : List String) : List Cond := (Bundle.ownAtoms0 own ic X names).filter vx_no
def vx_atS (own : String) (ic : Nat) (X : String) (names : List String) : List Cond := (Bundle.ownAtoms own ic X names).filter vx_no
/-- a word that the tables alone decide, or a good one -/
def vx_ot (w : Cond) : Bool := w.onTables || goodWord w
theorem vx_ot_at {args a' : Array Value} {s U : State} {w : Cond} (hW : s.WarmedH U.vm) (hvm : s.vm = U.vm) (hg : vx_ot w = true) (h : w.before args s = true) : w.before a' U = true := by
  simp only [vx_ot, Bool.or_eq_true] at hg
  rcases hg with hg | hg
  · exact va_tabs hg hvm h
  · exact word_at hW (good_of_word hg) h
/-- a list's words: the good ones out of the method's own list, the others by premises of their own -/
theorem vx_hat {args : Array Value} {s : State} {L B : List Cond} (h1 : ∀ w ∈ L.filter goodWord, w.before args s = true) (h2 : ∀ w ∈ L.filter (fun w => !goodWord w), w ∈ B) (h3 : ∀ w ∈ B, w.before args s = true) : ∀ w ∈ L, w.before args s = true := by
  intro w hw
  by_cases g : goodWord w = true
  · exact h1 w (List.mem_filter.mpr ⟨hw, g⟩)
  · refine h3 w (h2 w (List.mem_filter.mpr ⟨hw, ?_⟩))
    show (!goodWord w) = true
    cases hgw : goodWord w
    · rfl
    · exact absurd hgw g
theorem vx_c {args : Array Value} {s : State} {w : Cond} {B : List Cond} (h : w.before args s = true) (t : ∀ w ∈ B, w.before args s = true) : ∀ w' ∈ w :: B, w'.before args s = true := fun w' h' => (List.mem_cons.mp h').elim (fun e => by rw [e]; exact h) (t w')
theorem vx_n {args : Array Value} {s : State} : ∀ w ∈ ([] : List Cond), w.before args s = true := fun _ h => nomatch h
theorem vx_own {args : Array Value} {s : State} {L : List Cond} (h1 : ∀ w ∈ L.filter vx_no, w.before args s = true)
    (hU : (Cond.isRef (.static Bundle.tN "UNASSIGNED_STACK" Bundle.steD)).before args s = true) (hN : (Cond.isRef (.static Bundle.tN "SUPPRESSED_SENTINEL" Bundle.listD)).before args s = true)
    (lU : (Cond.laysStatic Bundle.tN "UNASSIGNED_STACK" Bundle.steD).before args s = true) (lN : (Cond.laysStatic Bundle.tN "SUPPRESSED_SENTINEL" Bundle.listD).before args s = true) : ∀ w ∈ L, w.before args s = true := by
  intro w hw
  by_cases e1 : w = .isRef (.static Bundle.tN "UNASSIGNED_STACK" Bundle.steD)
  · rw [e1]; exact hU
  · by_cases e2 : w = .isRef (.static Bundle.tN "SUPPRESSED_SENTINEL" Bundle.listD)
    · rw [e2]; exact hN
    · by_cases e3 : w = .laysStatic Bundle.tN "UNASSIGNED_STACK" Bundle.steD
      · rw [e3]; exact lU
      · by_cases e4 : w = .laysStatic Bundle.tN "SUPPRESSED_SENTINEL" Bundle.listD
        · rw [e4]; exact lN
        · exact h1 w (List.mem_filter.mpr ⟨hw, by unfold vx_no; rw [decide_eq_true e1, decide_eq_true e2, decide_eq_true e3, decide_eq_true e4]; rfl⟩)
/-- where a static field lies, its class's statics cell in H -/
def vx_L (C n d : String) (A : Nat → Prop) (U : State) (H : Heap) : Prop := ∃ (c : ClassId) (k : Class) (i : Nat) (f : Field) (a : Nat) (cell : Cell), U.vm.findClass C = some c ∧ U.fieldFound? C n d = some (c, k, i, f) ∧ f.isStatic = true ∧ k.statics = some a ∧ H[a]? = some cell ∧ cell.vm.isStatics = true ∧ cell.cls = c ∧ f.slot < cell.slots.size ∧ k.staticTypes[f.slot]? = some f.type ∧ ¬ A a
theorem vx_L.moved {C n d : String} {A : Nat → Prop} {u U : State} {H : Heap} (hvm : u.vm.Alike U.vm) (h : vx_L C n d A u H) : vx_L C n d A U H := by
  obtain ⟨c, k, i, f, a, cell, h1, h2, h3, h4, h5, h6, h7, h8, h9, h10⟩ := h
  obtain ⟨k', hi', he⟩ := State.fieldFound?_setVm hvm h2
  exact ⟨c, k', i, f, a, cell, by rw [hvm.findClass]; exact h1, hi', h3, by rw [he]; exact h4, h5, h6, h7, h8, by rw [he]; exact h9, h10⟩
theorem vx_L.kept {C n d : String} {A : Nat → Prop} {U : State} {H H1 : Heap} (h : vx_L C n d A U H) (hq : ∀ a : Nat, a < H.size → ¬ A a → H1[a]? = H[a]?) : vx_L C n d A U H1 := by
  obtain ⟨c, k, i, f, a, cell, h1, h2, h3, h4, h5, h6, h7, h8, h9, h10⟩ := h
  exact ⟨c, k, i, f, a, cell, h1, h2, h3, h4, by rw [hq a (Array.getElem?_eq_some_iff.mp h5).1 h10]; exact h5, h6, h7, h8, h9, h10⟩
theorem vx_L.narrow {C n d : String} {A B : Nat → Prop} {U : State} {H : Heap} (h : vx_L C n d A U H) (hAB : ∀ q, B q → A q) : vx_L C n d B U H := by
  obtain ⟨c, k, i, f, a, cell, h1, h2, h3, h4, h5, h6, h7, h8, h9, h10⟩ := h
  exact ⟨c, k, i, f, a, cell, h1, h2, h3, h4, h5, h6, h7, h8, h9, fun z => h10 (hAB _ z)⟩
theorem vx_L.word {C n d : String} {A : Nat → Prop} {s : State} {args : Array Value} (h : vx_L C n d A s s.heap) : (Cond.laysStatic C n d).before args s = true := by
  obtain ⟨c, k, i, f, a, cell, h1, h2, h3, h4, h5, h6, h7, h8, h9, -⟩ := h
  show (Cond.laysStatic C n d).holds args s none s [] = true
  exact Cond.laysStatic_of h1 h2 h3 h4 h5 h6 h7 h8 h9
/-- .. and what it holds: null or some reference -/
def vx_Zq (C n d : String) (A : Nat → Prop) (U : State) (H : Heap) : Prop := va_Zq C n d A U H ∧ vx_L C n d A U H
theorem vx_Zq.moved {C n d : String} {A : Nat → Prop} {u U : State} {H : Heap} (hvm : u.vm.Alike U.vm) (h : vx_Zq C n d A u H) : vx_Zq C n d A U H := ⟨va_Zq.moved hvm h.1, vx_L.moved hvm h.2⟩
theorem vx_Zq.kept {C n d : String} {A : Nat → Prop} {U : State} {H H1 : Heap} (h : vx_Zq C n d A U H) (hq : ∀ a : Nat, a < H.size → ¬ A a → H1[a]? = H[a]?) : vx_Zq C n d A U H1 := ⟨va_Zq.kept h.1 hq, vx_L.kept h.2 hq⟩
theorem vx_Zq.narrow {C n d : String} {A B : Nat → Prop} {U : State} {H : Heap} (h : vx_Zq C n d A U H) (hAB : ∀ q, B q → A q) : vx_Zq C n d B U H := ⟨va_Zq.narrow h.1 hAB, vx_L.narrow h.2 hAB⟩
theorem vx_Zqof {args : Array Value} {s : State} {C n d : String} {A : Nat → Prop} (hl : (Cond.laysStatic C n d).before args s = true) (hini : (Cond.initialized C).before args s = true) (h : (Cond.isRef (.static C n d)).before args s = true) (hA : ∀ a : Nat, a < s.heap.size → ¬ A a) : vx_Zq C n d A s s.heap := by
  refine ⟨va_Zqof hl hini h hA, ?_⟩
  obtain ⟨c, k, i, f, a, cell, h1, h2, h3, h4, h5, h6, h7, h8, h9⟩ := Cond.laysStatic_spec hl
  exact ⟨c, k, i, f, a, cell, h1, h2, h3, h4, h5, h6, h7, h8, h9, hA a (Array.getElem?_eq_some_iff.mp h5).1⟩
theorem vx_isRef {C n d : String} {v : Value} {A : Nat → Prop} {s : State} {args : Array Value} (h : va_Z C n d v A s s.heap) (hv : v.isRef = true) : (Cond.isRef (.static C n d)).before args s = true := by
  obtain ⟨cf, kf, fi, f, a, cell, h1, h2, h3, h4, h5, h6, h7, -⟩ := h
  have he : (Term.static C n d).eval args s none [] s = some v := by
    simp [Term.eval, State.fieldNamed?, h1, h2, h4, h5, h6, h7]
  simp only [Cond.before, Cond.holds, Cond.value, he]
  cases v <;> simp_all [Value.isRef]
theorem vx_isRefq {C n d : String} {A : Nat → Prop} {s : State} {args : Array Value} (h : va_Zq C n d A s s.heap) : (Cond.isRef (.static C n d)).before args s = true := by
  rcases h with h | ⟨t, h⟩
  · exact vx_isRef h rfl
  · exact vx_isRef h rfl
/-- the same frame, seen from here: as if the method were called anew in this heap -/
theorem vx_rebase {T : State} (X : Stand p l e R s m args below meth c T locs cells slots) {R' : Room} (hf : R'.frames ≤ R.frames) (hl : R'.locals ≤ R.locals) (hc : cells + R'.cells ≤ R.cells) (hs : slots + R'.slots ≤ R.slots) :
    Stand p l e R' ((T.setVm s.vm).setFrames (.invoking m args :: below)) m args below meth c T [] 0 0 := by
  have htop : (T.setVm s.vm).topJava?.isSome := X.here.top
  have hF : ((T.setVm s.vm).setFrames (.invoking m args :: below)).frames = .invoking m args :: below := State.frames_setFrames _ (State.cur_lt_of_top htop)
  obtain ⟨g₀, hg0⟩ := Option.isSome_iff_exists.mp htop
  obtain ⟨r, hr⟩ := State.topJava?_eq_some.mp hg0
  have hl9 : e.platform.stackLimits (T.setVm s.vm).me = e.platform.stackLimits s.me := X.limits
  have hb9 : (T.setVm s.vm).me.stackBytes = s.me.stackBytes := X.bytes
  refine ⟨X.admits, X.cas, X.clock, hF, ?_, X.hears, X.method, X.code, X.here, X.tail, X.warmed, ?_, ?_, ?_⟩
  · have h := X.room
    have hU : ((T.setVm s.vm).setFrames (.invoking m args :: below)).localsInUse = s.localsInUse := by
      rw [State.localsInUse_invoking hF (meth := meth) (c := c) X.method X.code, State.localsInUse_invoking X.frames X.method X.code]
    simp only [State.hasRoom, Bool.and_eq_true, decide_eq_true_eq] at h ⊢
    obtain ⟨⟨⟨⟨h1, h2, h3, h4, h5, h6⟩, h7⟩, h8⟩, h9⟩ := h
    rw [X.frames, List.length_cons] at h2 h3
    have q1 := X.heapSize
    have q2 := X.used
    simp only [hF, hU, List.length_cons, State.stackLimits_setFrames, State.stackBytes_setFrames, hl9, hb9]
    refine ⟨⟨⟨⟨by omega, by omega, by omega, by omega, by omega, h6⟩, ?_⟩, ?_⟩, X.book⟩
    · show T.heap.size + R'.cells ≤ e.platform.maxCells
      omega
    · show T.slotsUsed + R'.slots ≤ e.platform.maxSlots
      omega
  · rw [State.stackLimits_setFrames]; rfl
  · rw [State.stackBytes_setFrames]; rfl
  · refine ⟨?_, Nat.le_refl _, Nat.le_refl _, ?_, ?_, fun a c9 h9 => ⟨c9, h9, rfl, rfl, fun _ _ => rfl⟩⟩
    · obtain ⟨t, ht, -⟩ := State.frames_cons hr
      show T.setVm s.vm = { ((T.setVm s.vm).setFrames (.invoking m args :: below)).setFrames (T.setVm s.vm).frames with heap := T.heap, slotsUsed := T.slotsUsed }
      rw [State.setFrames_setFrames, State.setFrames_self ht]
      rfl
    · show T.slotsUsed = T.slotsUsed + ((T.heap.toList.drop T.heap.size).map (·.slots.size)).sum
      rw [List.drop_eq_nil_of_le (Nat.le_of_eq Array.length_toList)]
      rfl
    · show ((T.heap.toList.drop T.heap.size).map (·.slots.size)).sum ≤ 0
      rw [List.drop_eq_nil_of_le (Nat.le_of_eq Array.length_toList)]
      exact Nat.le_refl _
/-- 'throw new E()': new; dup; invokespecial; athrow -/
theorem vx_throw0 {cc : ByteArray} {pc : Nat} (hexec : p.tables.exec = Jvm.exec) (hb : c.code = cc) (hl : l.stackTraces = false) {own cls : String} {names : List String} {ik ic mc ms : Nat} {A : Nat → Prop}
    (hown : s.vm.findClass own = some m.cls) (hcls : Bundle.fit cls = true) (hnames : ∀ n ∈ names, Bundle.fit n = true)
    (hk : (Cond.classLink own ik cls).before args s = true) (hini : (Cond.initialized cls).before args s = true) (hat : ∀ w ∈ vx_at0 own ic cls names, w.before args s = true)
    (hgood : ∀ w ∈ Cond.classLink own ik cls :: Cond.initialized cls :: vx_at0 own ic cls names, vx_ot w = true)
    (hU : vx_Zq Bundle.tN "UNASSIGNED_STACK" Bundle.steD A s s.heap) (hN : vx_Zq Bundle.tN "SUPPRESSED_SENTINEL" Bundle.listD A s s.heap) (hS : va_S A s.heap H locs) (hsize : ls.size = c.maxLocals)
    (d0 : decode cc pc = .ok (.new ik, 3)) (d3 : decode cc (pc + 3) = .ok (.dup, 1)) (d4 : decode cc (pc + 4) = .ok (.invokespecial ic, 3)) (d7 : decode cc (pc + 7) = .ok (.athrow, 1))
    (hout : ∀ x ∈ c.exceptionTable.toList, covers x (pc + 7) = false)
    (hRframes : names.length + 3 < R.frames) (hRlocals : (rest.map fun v => v.category).sum + (13 * (names.length + 1) + 42) ≤ R.locals) (hRcells : cells + 1 ≤ R.cells) (hRslots : slots + 6 ≤ R.slots) (hlocks : meth.locks = false)
    (hx : ∀ t : State, s.vm.Alike t.vm → H.size ≤ t.heap.size → (∀ q : Nat, q < H.size → t.heap[q]? = H[q]?) → XC cls s t)
    (hf : ∀ z ∈ locs, free z.base) (hc : cells + 1 ≤ mc) (hs : slots + 6 ≤ ms) :
    W p l e R s m args below meth c H locs cells slots (vx_MQ below Qc XC args s mc ms free) (F0 m pc ls rest) := by
  intro T hT X
  have htr : e.platform.stackTraces = false := (show e.platform.stackTraces = l.stackTraces by rw [X.admits.platform]).trans hl
  have Y := vx_rebase X (R' := { frames := R.frames, locals := R.locals, cells := 1, slots := 6 }) (Nat.le_refl _) (Nat.le_refl _) hRcells hRslots
  obtain ⟨s', hA⟩ : ∃ z, z = (T.setVm s.vm).setFrames (.invoking m args :: below) := ⟨_, rfl⟩
  rw [← hA] at Y
  have hvm : s'.vm = s.vm := by rw [hA]; rfl
  have hhp : s'.heap = H := by rw [hA]; exact hT
  have hW0 : s.WarmedH s'.vm := by rw [hvm]; exact State.WarmedH.refl s
  have hat' : ∀ w ∈ vx_at0 own ic cls names, w.before args s' = true := fun w hw => vx_ot_at hW0 hvm.symm (hgood w (List.mem_cons_of_mem _ (List.mem_cons_of_mem _ hw))) (hat w hw)
  have hk' : (Cond.classLink own ik cls).before args s' = true := vx_ot_at hW0 hvm.symm (hgood _ List.mem_cons_self) hk
  have hini' : (Cond.initialized cls).before args s' = true := vx_ot_at hW0 hvm.symm (hgood _ (List.mem_cons_of_mem _ List.mem_cons_self)) hini
  have hU' : vx_Zq Bundle.tN "UNASSIGNED_STACK" Bundle.steD A s' s'.heap := by rw [hhp]; exact vx_Zq.moved hW0.alike (hU.kept hS.2.1)
  have hN' : vx_Zq Bundle.tN "SUPPRESSED_SENTINEL" Bundle.listD A s' s'.heap := by rw [hhp]; exact vx_Zq.moved hW0.alike (hN.kept hS.2.1)
  have h : ∀ w ∈ Bundle.ownAtoms0 own ic cls names, w.before args s' = true := vx_own hat' (vx_isRefq hU'.1) (vx_isRefq hN'.1) hU'.2.word hN'.2.word
  have hown' : s'.vm.findClass own = some m.cls := by rw [hvm]; exact hown
  have hins : (Cond.instantiable cls 6).before args s' = true := h _ (by simp [Bundle.ownAtoms0])
  obtain ⟨vm₁, cX, kX, hfX, hkX, -, -, X₁, st1⟩ := Y.newCold hexec (own := own) (C := cls) (index := ik) (n := 6) hown' hk' hins hini'
    (g := F0 m pc ls rest) rfl (by rw [hb]; exact d0) (Nat.le_refl _) (Nat.le_refl _)
  generalize hT1 : (T.setVm vm₁).pushCell { cls := cX, slots := kX.instanceTypes.map defaultValue, vm := .none } = T1 at X₁ st1
  have hcat : (Value.ref T.heap.size).category = 1 := rfl
  have hcellA : T1.heap[T.heap.size]? = some (freshCell cX kX) := by rw [← hT1]; exact State.heap_pushCell_size _ _
  have d3' : decode c.code (pc + 3) = .ok (.dup, 1) := by rw [hb]; exact d3
  obtain ⟨U, hsteps, hrun, hend, hW, hsame, ce, hce, hO⟩ := X₁.ctorThrow0 hexec htr (own := own) (cls := cls) (names := names) (ic := ic) hown' hcls hnames h (fun x hx => nomatch hx) hfX hkX hcellA (by rw [hhp, hT]; exact Nat.le_refl _)
    (g := { method := m, pc := pc + 4, locals := ls, stack := .ref T.heap.size :: .ref T.heap.size :: rest, locked := none }) rfl hsize rfl rfl (rest := rest) rfl
    (by rw [hb]; exact d4) (by rw [hb]; exact d7) hout hRframes (by simp only [List.map_cons, List.sum_cons, hcat]; omega) hlocks
  obtain ⟨f1, f2⟩ := vx_frame hsame
  rw [hhp] at f1 f2
  have hWs : s.WarmedH U.vm := State.WarmedH.trans hW0 hW
  have hcl : s.vm.findClass cls = some ce.cls := by
    have h9 := hO.cls
    rw [hvm] at h9
    exact h9
  have hall : s.sameButNew ({ U with vm := s.vm } : State) locs mc ms := by
    subst hA
    obtain ⟨e1, e2⟩ := hsame
    rw [State.setFrames_setFrames] at e1
    have h2 : (T.setVm s.vm).sameButNew ({ U with vm := s.vm } : State) [] (0 + 1) (0 + 6) := ⟨e1, e2⟩
    have h3 := X.same.trans h2
    rw [List.append_nil] at h3
    exact h3.mono hc hs
  refine ⟨U, ?_, .threw T.heap.size, hrun, hend, Or.inr ⟨T.heap.size, rfl, cls, ce, locs, hx U hWs.alike f1 (fun q hq => f2 q hq (fun z hz => nomatch hz)), hce, hO.vm, hcl, hWs, hall, hf⟩⟩
  refine st1 _ ?_
  show Steps p.tables e below (T1.setTop { method := m, pc := pc + 3, locals := ls, stack := .ref T.heap.size :: rest, locked := none }) _
  jvm_step X₁.here [X₁.here.top, hexec, d3', Value.category]
  exact hsteps
/-- 'throw new E("text")': new; dup; ldc; invokespecial; athrow -/
theorem vx_throwS {cc : ByteArray} {pc : Nat} (hexec : p.tables.exec = Jvm.exec) (hb : c.code = cc) (hl : l.stackTraces = false) {own cls text : String} {names : List String} {ik is ic mc ms sa : Nat} {A : Nat → Prop}
    (hown : s.vm.findClass own = some m.cls) (hcls : Bundle.fit cls = true) (hnames : ∀ n ∈ names, Bundle.fit n = true)
    (hk : (Cond.classLink own ik cls).before args s = true) (hini : (Cond.initialized cls).before args s = true) (hstr : vk_R own is text sa s) (hat : ∀ w ∈ vx_atS own ic cls names, w.before args s = true)
    (hgood : ∀ w ∈ Cond.classLink own ik cls :: Cond.initialized cls :: vx_atS own ic cls names, vx_ot w = true)
    (hU : vx_Zq Bundle.tN "UNASSIGNED_STACK" Bundle.steD A s s.heap) (hN : vx_Zq Bundle.tN "SUPPRESSED_SENTINEL" Bundle.listD A s s.heap) (hS : va_S A s.heap H locs) (hsize : ls.size = c.maxLocals)
    (d0 : decode cc pc = .ok (.new ik, 3)) (d3 : decode cc (pc + 3) = .ok (.dup, 1)) (d4 : decode cc (pc + 4) = .ok (.ldc is, 2)) (d6 : decode cc (pc + 6) = .ok (.invokespecial ic, 3)) (d9 : decode cc (pc + 9) = .ok (.athrow, 1))
    (hout : ∀ x ∈ c.exceptionTable.toList, covers x (pc + 9) = false)
    (hRframes : names.length + 3 < R.frames) (hRlocals : (rest.map fun v => v.category).sum + (13 * (names.length + 1) + 43) ≤ R.locals) (hRcells : cells + 1 ≤ R.cells) (hRslots : slots + 6 ≤ R.slots) (hlocks : meth.locks = false)
    (hx : ∀ t : State, s.vm.Alike t.vm → H.size ≤ t.heap.size → (∀ q : Nat, q < H.size → t.heap[q]? = H[q]?) → XC cls s t)
    (hf : ∀ z ∈ locs, free z.base) (hc : cells + 1 ≤ mc) (hs : slots + 6 ≤ ms) :
    W p l e R s m args below meth c H locs cells slots (vx_MQ below Qc XC args s mc ms free) (F0 m pc ls rest) := by
  intro T hT X
  have htr : e.platform.stackTraces = false := (show e.platform.stackTraces = l.stackTraces by rw [X.admits.platform]).trans hl
  have Y := vx_rebase X (R' := { frames := R.frames, locals := R.locals, cells := 1, slots := 6 }) (Nat.le_refl _) (Nat.le_refl _) hRcells hRslots
  obtain ⟨s', hA⟩ : ∃ z, z = (T.setVm s.vm).setFrames (.invoking m args :: below) := ⟨_, rfl⟩
  rw [← hA] at Y
  have hvm : s'.vm = s.vm := by rw [hA]; rfl
  have hhp : s'.heap = H := by rw [hA]; exact hT
  have hW0 : s.WarmedH s'.vm := by rw [hvm]; exact State.WarmedH.refl s
  have hat' : ∀ w ∈ vx_atS own ic cls names, w.before args s' = true := fun w hw => vx_ot_at hW0 hvm.symm (hgood w (List.mem_cons_of_mem _ (List.mem_cons_of_mem _ hw))) (hat w hw)
  have hk' : (Cond.classLink own ik cls).before args s' = true := vx_ot_at hW0 hvm.symm (hgood _ List.mem_cons_self) hk
  have hini' : (Cond.initialized cls).before args s' = true := vx_ot_at hW0 hvm.symm (hgood _ (List.mem_cons_of_mem _ List.mem_cons_self)) hini
  have hU' : vx_Zq Bundle.tN "UNASSIGNED_STACK" Bundle.steD A s' s'.heap := by rw [hhp]; exact vx_Zq.moved hW0.alike (hU.kept hS.2.1)
  have hN' : vx_Zq Bundle.tN "SUPPRESSED_SENTINEL" Bundle.listD A s' s'.heap := by rw [hhp]; exact vx_Zq.moved hW0.alike (hN.kept hS.2.1)
  have h : ∀ w ∈ Bundle.ownAtoms own ic cls names, w.before args s' = true := vx_own hat' (vx_isRefq hU'.1) (vx_isRefq hN'.1) hU'.2.word hN'.2.word
  have hown' : s'.vm.findClass own = some m.cls := by rw [hvm]; exact hown
  have hins : (Cond.instantiable cls 6).before args s' = true := h _ (by simp [Bundle.ownAtoms])
  obtain ⟨vm₁, cX, kX, hfX, hkX, -, -, X₁, st1⟩ := Y.newCold hexec (own := own) (C := cls) (index := ik) (n := 6) hown' hk' hins hini'
    (g := F0 m pc ls rest) rfl (by rw [hb]; exact d0) (Nat.le_refl _) (Nat.le_refl _)
  generalize hT1 : (T.setVm vm₁).pushCell { cls := cX, slots := kX.instanceTypes.map defaultValue, vm := .none } = T1 at X₁ st1
  have hcat : (Value.ref T.heap.size).category = 1 := rfl
  have hcellA : T1.heap[T.heap.size]? = some (freshCell cX kX) := by rw [← hT1]; exact State.heap_pushCell_size _ _
  have d3' : decode c.code (pc + 3) = .ok (.dup, 1) := by rw [hb]; exact d3
  have d4' : decode c.code (pc + 4) = .ok (.ldc is, 2) := by rw [hb]; exact d4
  have hstr' : vk_R own is text sa s' := vk_R.warm hW0 hstr
  obtain ⟨U, hsteps, hrun, hend, hW, hsame, ce, hce, hO⟩ := X₁.ctorThrowS hexec htr (own := own) (cls := cls) (names := names) (ic := ic) hown' hcls hnames h (fun x hx => nomatch hx) hfX hkX hcellA (by rw [hhp, hT]; exact Nat.le_refl _) (msg := .ref sa) rfl
    (g := { method := m, pc := pc + 6, locals := ls, stack := .ref sa :: .ref T.heap.size :: .ref T.heap.size :: rest, locked := none }) rfl hsize rfl rfl (rest := rest) rfl
    (by rw [hb]; exact d6) (by rw [hb]; exact d9) hout hRframes (by simp only [List.map_cons, List.sum_cons, hcat]; omega) hlocks
  obtain ⟨f1, f2⟩ := vx_frame hsame
  rw [hhp] at f1 f2
  have hWs : s.WarmedH U.vm := State.WarmedH.trans hW0 hW
  have hcl : s.vm.findClass cls = some ce.cls := by
    have h9 := hO.cls
    rw [hvm] at h9
    exact h9
  have hall : s.sameButNew ({ U with vm := s.vm } : State) locs mc ms := by
    subst hA
    obtain ⟨e1, e2⟩ := hsame
    rw [State.setFrames_setFrames] at e1
    have h2 : (T.setVm s.vm).sameButNew ({ U with vm := s.vm } : State) [] (0 + 1) (0 + 6) := ⟨e1, e2⟩
    have h3 := X.same.trans h2
    rw [List.append_nil] at h3
    exact h3.mono hc hs
  refine ⟨U, ?_, .threw T.heap.size, hrun, hend, Or.inr ⟨T.heap.size, rfl, cls, ce, locs, hx U hWs.alike f1 (fun q hq => f2 q hq (fun z hz => nomatch hz)), hce, hO.vm, hcl, hWs, hall, hf⟩⟩
  refine st1 _ ?_
  show Steps p.tables e below (T1.setTop { method := m, pc := pc + 3, locals := ls, stack := .ref T.heap.size :: rest, locked := none }) _
  jvm_step X₁.here [X₁.here.top, hexec, d3', Value.category]
  exact X₁.ldcString hexec (own := own) (text := text) (index := is) (a := sa) hown' hstr'.1 hstr'.2
    (g := { method := m, pc := pc + 4, locals := ls, stack := .ref T.heap.size :: .ref T.heap.size :: rest, locked := none }) rfl d4' _ hsteps
/-- 'throw new E("text")', the text by a wide index -/
theorem vx_throwSW {cc : ByteArray} {pc : Nat} (hexec : p.tables.exec = Jvm.exec) (hb : c.code = cc) (hl : l.stackTraces = false) {own cls text : String} {names : List String} {ik is ic mc ms sa : Nat} {A : Nat → Prop}
    (hown : s.vm.findClass own = some m.cls) (hcls : Bundle.fit cls = true) (hnames : ∀ n ∈ names, Bundle.fit n = true)
    (hk : (Cond.classLink own ik cls).before args s = true) (hini : (Cond.initialized cls).before args s = true) (hstr : vk_R own is text sa s) (hat : ∀ w ∈ vx_atS own ic cls names, w.before args s = true)
    (hgood : ∀ w ∈ Cond.classLink own ik cls :: Cond.initialized cls :: vx_atS own ic cls names, vx_ot w = true)
    (hU : vx_Zq Bundle.tN "UNASSIGNED_STACK" Bundle.steD A s s.heap) (hN : vx_Zq Bundle.tN "SUPPRESSED_SENTINEL" Bundle.listD A s s.heap) (hS : va_S A s.heap H locs) (hsize : ls.size = c.maxLocals)
    (d0 : decode cc pc = .ok (.new ik, 3)) (d3 : decode cc (pc + 3) = .ok (.dup, 1)) (d4 : decode cc (pc + 4) = .ok (.ldc_w is, 3)) (d7 : decode cc (pc + 7) = .ok (.invokespecial ic, 3)) (d10 : decode cc (pc + 10) = .ok (.athrow, 1))
    (hout : ∀ x ∈ c.exceptionTable.toList, covers x (pc + 10) = false)
    (hRframes : names.length + 3 < R.frames) (hRlocals : (rest.map fun v => v.category).sum + (13 * (names.length + 1) + 43) ≤ R.locals) (hRcells : cells + 1 ≤ R.cells) (hRslots : slots + 6 ≤ R.slots) (hlocks : meth.locks = false)
    (hx : ∀ t : State, s.vm.Alike t.vm → H.size ≤ t.heap.size → (∀ q : Nat, q < H.size → t.heap[q]? = H[q]?) → XC cls s t)
    (hf : ∀ z ∈ locs, free z.base) (hc : cells + 1 ≤ mc) (hs : slots + 6 ≤ ms) :
    W p l e R s m args below meth c H locs cells slots (vx_MQ below Qc XC args s mc ms free) (F0 m pc ls rest) := by
  intro T hT X
  have htr : e.platform.stackTraces = false := (show e.platform.stackTraces = l.stackTraces by rw [X.admits.platform]).trans hl
  have Y := vx_rebase X (R' := { frames := R.frames, locals := R.locals, cells := 1, slots := 6 }) (Nat.le_refl _) (Nat.le_refl _) hRcells hRslots
  obtain ⟨s', hA⟩ : ∃ z, z = (T.setVm s.vm).setFrames (.invoking m args :: below) := ⟨_, rfl⟩
  rw [← hA] at Y
  have hvm : s'.vm = s.vm := by rw [hA]; rfl
  have hhp : s'.heap = H := by rw [hA]; exact hT
  have hW0 : s.WarmedH s'.vm := by rw [hvm]; exact State.WarmedH.refl s
  have hat' : ∀ w ∈ vx_atS own ic cls names, w.before args s' = true := fun w hw => vx_ot_at hW0 hvm.symm (hgood w (List.mem_cons_of_mem _ (List.mem_cons_of_mem _ hw))) (hat w hw)
  have hk' : (Cond.classLink own ik cls).before args s' = true := vx_ot_at hW0 hvm.symm (hgood _ List.mem_cons_self) hk
  have hini' : (Cond.initialized cls).before args s' = true := vx_ot_at hW0 hvm.symm (hgood _ (List.mem_cons_of_mem _ List.mem_cons_self)) hini
  have hU' : vx_Zq Bundle.tN "UNASSIGNED_STACK" Bundle.steD A s' s'.heap := by rw [hhp]; exact vx_Zq.moved hW0.alike (hU.kept hS.2.1)
  have hN' : vx_Zq Bundle.tN "SUPPRESSED_SENTINEL" Bundle.listD A s' s'.heap := by rw [hhp]; exact vx_Zq.moved hW0.alike (hN.kept hS.2.1)
  have h : ∀ w ∈ Bundle.ownAtoms own ic cls names, w.before args s' = true := vx_own hat' (vx_isRefq hU'.1) (vx_isRefq hN'.1) hU'.2.word hN'.2.word
  have hown' : s'.vm.findClass own = some m.cls := by rw [hvm]; exact hown
  have hins : (Cond.instantiable cls 6).before args s' = true := h _ (by simp [Bundle.ownAtoms])
  obtain ⟨vm₁, cX, kX, hfX, hkX, -, -, X₁, st1⟩ := Y.newCold hexec (own := own) (C := cls) (index := ik) (n := 6) hown' hk' hins hini'
    (g := F0 m pc ls rest) rfl (by rw [hb]; exact d0) (Nat.le_refl _) (Nat.le_refl _)
  generalize hT1 : (T.setVm vm₁).pushCell { cls := cX, slots := kX.instanceTypes.map defaultValue, vm := .none } = T1 at X₁ st1
  have hcat : (Value.ref T.heap.size).category = 1 := rfl
  have hcellA : T1.heap[T.heap.size]? = some (freshCell cX kX) := by rw [← hT1]; exact State.heap_pushCell_size _ _
  have d3' : decode c.code (pc + 3) = .ok (.dup, 1) := by rw [hb]; exact d3
  have d4' : decode c.code (pc + 4) = .ok (.ldc_w is, 3) := by rw [hb]; exact d4
  have hstr' : vk_R own is text sa s' := vk_R.warm hW0 hstr
  obtain ⟨U, hsteps, hrun, hend, hW, hsame, ce, hce, hO⟩ := X₁.ctorThrowS hexec htr (own := own) (cls := cls) (names := names) (ic := ic) hown' hcls hnames h (fun x hx => nomatch hx) hfX hkX hcellA (by rw [hhp, hT]; exact Nat.le_refl _) (msg := .ref sa) rfl
    (g := { method := m, pc := pc + 7, locals := ls, stack := .ref sa :: .ref T.heap.size :: .ref T.heap.size :: rest, locked := none }) rfl hsize rfl rfl (rest := rest) rfl
    (by rw [hb]; exact d7) (by rw [hb]; exact d10) hout hRframes (by simp only [List.map_cons, List.sum_cons, hcat]; omega) hlocks
  obtain ⟨f1, f2⟩ := vx_frame hsame
  rw [hhp] at f1 f2
  have hWs : s.WarmedH U.vm := State.WarmedH.trans hW0 hW
  have hcl : s.vm.findClass cls = some ce.cls := by
    have h9 := hO.cls
    rw [hvm] at h9
    exact h9
  have hall : s.sameButNew ({ U with vm := s.vm } : State) locs mc ms := by
    subst hA
    obtain ⟨e1, e2⟩ := hsame
    rw [State.setFrames_setFrames] at e1
    have h2 : (T.setVm s.vm).sameButNew ({ U with vm := s.vm } : State) [] (0 + 1) (0 + 6) := ⟨e1, e2⟩
    have h3 := X.same.trans h2
    rw [List.append_nil] at h3
    exact h3.mono hc hs
  refine ⟨U, ?_, .threw T.heap.size, hrun, hend, Or.inr ⟨T.heap.size, rfl, cls, ce, locs, hx U hWs.alike f1 (fun q hq => f2 q hq (fun z hz => nomatch hz)), hce, hO.vm, hcl, hWs, hall, hf⟩⟩
  refine st1 _ ?_
  show Steps p.tables e below (T1.setTop { method := m, pc := pc + 3, locals := ls, stack := .ref T.heap.size :: rest, locked := none }) _
  jvm_step X₁.here [X₁.here.top, hexec, d3', Value.category]
  exact X₁.ldcStringW hexec (own := own) (text := text) (index := is) (a := sa) hown' hstr'.1 hstr'.2
    (g := { method := m, pc := pc + 4, locals := ls, stack := .ref T.heap.size :: .ref T.heap.size :: rest, locked := none }) rfl d4' _ hsteps
end Ends
section Bodies
variable {l : Launch}
theorem vx_ofW {y : MethodName} {ws ws' : List Cond} {rm : Room} {Pc : Array Value → State → Prop} {Qc : Array Value → State → Outcome → State → Prop} {XC : String → State → State → Prop} {mc ms : Nat} {free : Addr → Prop} {cc : ByteArray} {maxL : Nat} {ret : Option FieldType}
    (hy : plainName y.cls = true) (hw : ws = Cond.code y cc maxL ret :: ws')
    (body : ∀ p e s m args below meth c s₁, BodyLoose p l y (headSpec ws rm) cc maxL ret e s m args below meth c s₁ → c.maxLocals = maxL → (∀ x ∈ c.exceptionTable.toList, False) → Pc args s →
      W p l e (headSpec ws rm).room s m args below meth c s.heap [] 0 0 (vx_MQ below Qc XC args s mc ms free) (entryFrame m args maxL)) : vx_Met l y ws rm Pc Qc XC mc ms free := by
  refine MetFree.of_bodyS (code := cc) (maxLocals := maxL) (ret := ret) hy ?_ ?_
  · intro args s m h hn
    obtain ⟨meth, c, h1, h2, h3, h4, h5, h6, -, -⟩ := Cond.code_spec hn (atoms_spec (ws := ws) h _ (by rw [hw]; exact List.mem_cons_self))
    exact ⟨meth, c, h1, h2, h3, h4, h5, h6⟩
  · intro p e s m args below meth c s₁ B hml hP _
    have hh0 : s₁.heap = s.heap := by rw [B.state]; rfl
    have ht : ∀ x ∈ c.exceptionTable.toList, False := by
      obtain ⟨meth9, c9, h1, h2, -, -, -, -, h7, -⟩ := Cond.code_spec B.named (atoms_spec (ws := ws) B.pre _ (by rw [hw]; exact List.mem_cons_self))
      cases Option.some.inj (h1.symm.trans B.method)
      cases Option.some.inj (h2.symm.trans (Stand.of_body B).code)
      intro x hx
      rw [Array.isEmpty_iff.mp h7] at hx
      cases hx
    obtain ⟨t, a1, o, b1, b2, b3⟩ := body p e s m args below meth c s₁ B hml ht hP s₁ hh0 (Stand.of_body B)
    exact ⟨t, o, a1, b1, b2, b3⟩
/-- the table of a body with handlers -/
theorem vx_table {p : Program} {x y : MethodName} {S : Spec} {cc bytes : ByteArray} {maxL maxL' : Nat} {ret ret' : Option FieldType} {e : Env} {s s₁ : State} {m : MethodId} {args : Array Value} {below : List Frame} {meth : Method} {c : Code} {hh : List (Nat × Nat × Nat × Nat)}
    (B : BodyLoose p l y S cc maxL ret e s m args below meth c s₁) (h : (Cond.codeWith y bytes maxL' ret' hh).before args s = true) : c.exceptionTable.toList = tableOf hh := by
  obtain ⟨m9, meth9, c9, hn9, h1, h2, -, -, h6, -⟩ := Cond.codeWith_spec h
  cases Option.some.inj (hn9.symm.trans B.named)
  cases Option.some.inj (h1.symm.trans B.method)
  cases Option.some.inj (h2.symm.trans (Stand.of_body B).code)
  rw [← h6, table_eq]
end Bodies
end VXA
/-! ===== END ===== -/
/-! ===== BEGIN a static call of a method with an exception table ===== -/
section VXS
variable {p : Program} {l : Launch} {e : Env} {R : Room} {s : State} {m : MethodId} {args : Array Value} {below : List Frame} {meth : Method} {c : Code} {T : State} {H : Heap} {locs : List Loc} {cells slots : Nat}
abbrev vx_CSW (R : Room) (s : State) (args : Array Value) (own : String) (index : Nat) (y : MethodName) (bytes : ByteArray) (maxL : Nat) (ret : Option FieldType) (hh : List (Nat × Nat × Nat × Nat)) (ws : List Cond) (rm : Room) (mc ms n : Nat) : Prop :=
  (rm.cells = mc ∧ rm.slots = ms ∧ rm.frames + 1 ≤ R.frames ∧ 8 + (maxL + 11) + rm.locals ≤ R.locals ∧ (∀ w ∈ ws, ∀ (a' : Array Value) (U : State), s.WarmedH U.vm → w.before a' U = true) ∧ Cond.codeWith y bytes maxL ret hh ∈ ws) ∧
  (Cond.codeWith y bytes maxL ret hh).before args s = true ∧ (Cond.initialized y.cls).before args s = true ∧ (y.cls ≠ "java/lang/invoke/MethodHandle" ∧ y.cls ≠ "java/lang/invoke/VarHandle") ∧
  (∀ sig, parseMethodDescriptor y.desc = some sig → n = sig.parameters.length) ∧ (Cond.methodLink own index y).before args s = true ∧ (Cond.static y).before args s = true
theorem vx_cwSW {own : String} {index maxL mc ms : Nat} {y : MethodName} {bytes : ByteArray} {ret : Option FieldType} {hh : List (Nat × Nat × Nat × Nat)} {Ts ws ws' : List Cond} {rm : Room} (n : Nat) (ht : ∀ w ∈ Ts, w.before args s = true) (hT : GoodIn Ts (va_wsS own index y ws)) (hw : ws = Cond.codeWith y bytes maxL ret hh :: ws') (hrc : rm.cells = mc) (hrs : rm.slots = ms)
    (hd : y.cls ≠ "java/lang/invoke/MethodHandle" ∧ y.cls ≠ "java/lang/invoke/VarHandle" ∧ (parseMethodDescriptor y.desc).map (fun d => d.parameters.length) = some n) (hR : rm.frames + 1 ≤ R.frames ∧ 8 + (maxL + 11) + rm.locals ≤ R.locals) :
    vx_CSW R s args own index y bytes maxL ret hh ws rm mc ms n := by
  have ok : ∀ w ∈ va_wsS own index y ws, w.before args s = true := fun w h => ht w (hT w h).1
  have hG : GoodIn Ts ws := fun w h => hT w (by unfold va_wsS; exact List.mem_append_right _ h)
  have hc : Cond.codeWith y bytes maxL ret hh ∈ ws := by rw [hw]; exact List.mem_cons_self
  refine ⟨⟨hrc, hrs, hR.1, hR.2, pay_in ht hG, hc⟩, ht _ (hG _ hc).1, ok _ (by simp [va_wsS]), ⟨hd.1, hd.2.1⟩, fun sig h => ?_, ok _ (by simp [va_wsS]), ok _ (by simp [va_wsS])⟩
  have h2 := hd.2.2
  rw [h] at h2
  exact (Option.some.inj h2).symm
theorem vx_callSW (X : Stand p l e R s m args below meth c T locs cells slots) (hexec : p.tables.exec = Jvm.exec) {own : String} {index : Nat} {y : MethodName} {bytes : ByteArray} {maxL : Nat} {ret : Option FieldType} {hh : List (Nat × Nat × Nat × Nat)}
    (hown : s.vm.findClass own = some m.cls) (hlink : (Cond.methodLink own index y).before args s = true) (hstat : (Cond.static y).before args s = true) (hinit : (Cond.initialized y.cls).before args s = true)
    (hcode : (Cond.codeWith y bytes maxL ret hh).before args s = true) (hy : y.cls ≠ "java/lang/invoke/MethodHandle" ∧ y.cls ≠ "java/lang/invoke/VarHandle")
    {W9 : Nat} {Pre : Pt → Array Value → Prop} {Post : Pt → Array Value → Option Value → Pt → Prop} (hK : Back l R p e below s args y 3 W9 Pre Post)
    {g : JFrame} (hg : g.method = m) (hsize : g.locals.size = c.maxLocals) {argsL rest : List Value} (hlen : ∀ sig, parseMethodDescriptor y.desc = some sig → argsL.length = sig.parameters.length)
    (hstack : g.stack = argsL.reverse ++ rest) (hW : 2 * g.monitorRoom + (rest.map fun v => v.category).sum ≤ W9) (hdg : decode c.code g.pc = .ok (.invokestatic index, 3))
    (hpre : ∀ vm₁, s.WarmedH vm₁ → Pre ⟨T.setVm vm₁, locs, cells, slots⟩ argsL.toArray) :
    ∃ (v : Option Value) (vm₁ : Vm) (B : Pt), s.WarmedH vm₁ ∧ Stand p l e R s m args below meth c B.U B.locs B.cells B.slots ∧ Post ⟨T.setVm vm₁, locs, cells, slots⟩ argsL.toArray v B ∧
      ∀ target, Steps p.tables e below (B.U.setTop { g with pc := g.pc + 3, stack := v.toList ++ rest }) target → Steps p.tables e below (T.setTop g) target := by
  obtain ⟨mk, methM, cM, hnamed, hmethM, -, -, -, -, -, -, hsigM⟩ := Cond.codeWith_spec hcode
  have hstatic : methM.isStatic = true := Cond.static_spec hnamed hmethM hstat
  obtain ⟨kP, hkP, -⟩ := className_of_methodNamed hnamed
  have hinitP : kP.init = .initialized := Cond.initialized_spec (findClass_of_methodNamed hnamed) hkP hinit
  obtain ⟨vm₁, X₁, hstep₁⟩ := X.invokestatic hexec hown hlink hnamed hmethM hstatic hkP hinitP hy (g := g) hg (argsL := argsL) (rest := rest) (hlen _ hsigM) hstack hdg
  obtain ⟨v, B, X', hpost, hsteps⟩ := hK m meth c ⟨T.setVm vm₁, locs, cells, slots⟩ { g with stack := rest } (.invokestatic index) mk argsL.toArray X₁ hg hsize hdg hW (X₁.named hnamed) (hpre vm₁ X₁.warmed)
  exact ⟨v, vm₁, B, X₁.warmed, X', hpost, fun target h => hstep₁ _ fun acts => by rw [doInvoke_state]; exact hsteps.trans h⟩
theorem vx_runSW {y : MethodName} {bytes cc : ByteArray} {maxL nL mc ms n index : Nat} {ret : Option FieldType} {hh : List (Nat × Nat × Nat × Nat)} {ws : List Cond} {rm : Room} {Pc : Array Value → State → Prop} {Qc : Array Value → State → Outcome → State → Prop} {free : Addr → Prop} {Ts : List Cond} {own : String} {As rest : List Value} {g : JFrame}
    (S : CallFix p m c cc nL s args Ts own) (hM : Met l y ws rm Pc Qc mc ms free) (cw : vx_CSW R s args own index y bytes maxL ret hh ws rm mc ms n) (hp : PreS s H Pc As)
    (hg : g.method = m) (hn : As.length = n) (hsize : g.locals.size = nL) (hstack : g.stack = As.reverse ++ rest) (hW : 2 * g.monitorRoom + (rest.map fun v => v.category).sum ≤ 8) (hdg : decode cc g.pc = .ok (.invokestatic index, 3)) (hf : cells + mc ≤ R.cells ∧ slots + ms ≤ R.slots) :
    va_Run p l e R s m args below meth c H locs cells slots mc ms g rest (Qc As.toArray) (free) := by
  obtain ⟨⟨hrc, hrs, hfr, hlo, hws, hcw⟩, hcode, hini, hy, hlen, hl, hstt⟩ := cw
  have hK : Back l R p e below s args y 3 8 (PreOf R mc ms Pc) (PostOf Qc mc ms free) := va_backW (hh := hh) (bytes := bytes) (maxL := maxL) (ret := ret) hM hp.1 hrc hrs hfr hlo hws hcw (fun a' U hW => word_at hW (Or.inl (by first | rfl | simp [Cond.onTables, Cond.keeps, Cond.steady])) hini)
  obtain ⟨hx, hb, hml, ho, -⟩ := S
  intro T hT X
  obtain ⟨v, vm₁, ⟨U', l2, c2, s2⟩, hW₁, X', ⟨g', mk, t, L, e1, e2, hq, h1, hL, h2, h3⟩, st⟩ := vx_callSW X hx (hh := hh) (bytes := bytes) (maxL := maxL) (ret := ret) ho hl hstt hini hcode hy hK hg (hsize.trans hml.symm) (argsL := As) (rest := rest) (fun sig h => hn.trans (hlen sig h)) hstack hW (by rw [hb]; exact hdg)
    (fun vm₁ hW₁ => ⟨hf.1, hf.2, hp.2 (T.setVm vm₁) hT hW₁⟩)
  dsimp only [Pt.U, Pt.locs, Pt.cells, Pt.slots] at X' e1 e2 h1 h2 h3 st
  subst h1; subst h2; subst h3
  exact ⟨v, (T.setVm vm₁).calling g' mk As.toArray, t, U', L, hT, X', hL, e1, e2, hq, st⟩
/-- not caught here, past rows that name other classes: it goes on to the caller -/
theorem vx_outP {p : Program} {l : Launch} {e : Env} {R : Room} {s : State} {m : MethodId} {args : Array Value} {below : List Frame} {meth : Method} {c : Code} {H : Heap} {locs : List Loc} {cells slots : Nat} {free : Addr → Prop} {ls : Array Slot} {rest : List Value} {Qc : Array Value → State → Outcome → State → Prop} {XC : String → State → State → Prop}
    {pc : Nat} {own E : String} {ce : Cell} {q : Addr} {mc ms : Nat} (hown : s.vm.findClass own = some m.cls) (hlocks : meth.locks = false)
    (hpass : ∀ z ∈ c.exceptionTable.toList, covers z pc = false ∨ (z.catchType ≠ 0 ∧ ∃ nm : String, (Cond.classLink own z.catchType nm).before args s = true ∧ va_Nc E nm s)) (hcell : H[q]? = some ce) (hv : ce.vm = .none) (hcl : s.vm.findClass E = some ce.cls)
    (hx : ∀ t : State, t.heap = H → s.vm.Alike t.vm → XC E s t) (hf : ∀ z ∈ locs, free z.base) (hc : cells ≤ mc) (hs : slots ≤ ms) :
    vx_W p l e R s m args below meth c H locs cells slots (vx_MQ below Qc XC args s mc ms free) (F0 m pc ls rest) q := by
  intro T hT X
  have hpl : e.platform.magicAccessors = ({} : Platform).magicAccessors := by rw [X.admits.platform]
  obtain ⟨vm', hW', X', st⟩ := X.outThrough hlocks q (g := F0 m pc ls rest) rfl rfl rfl (cell := ce) (by rw [hT]; exact hcell) (by rw [hv]; rfl)
    (by obtain ⟨k9, h9, -⟩ := Vm.findClass_spec hcl; exact ⟨k9, h9⟩) (fun z hz => by
      rcases hpass z hz with h | ⟨hz0, nm, hl1, hn1⟩
      · exact Or.inl h
      · obtain ⟨c6, hc6, hcl6⟩ := Cond.classLink_spec hown hl1 e.platform hpl
        obtain ⟨a8, b8, h1, h2, h3⟩ := hn1
        cases Option.some.inj (h1.symm.trans hcl)
        cases Option.some.inj (h2.symm.trans hc6)
        exact Or.inr ⟨hz0, _, hcl6, h3⟩)
  obtain ⟨g₀, hfr⟩ := X'.frames_eq
  have hcell9 : ((T.setVm vm').setFrames (.throwing q :: below)).heap[q]? = some ce := by
    show T.heap[q]? = some ce
    rw [hT]; exact hcell
  have hend : Ended ((T.setVm vm').setFrames (.throwing q :: below)) below (.threw q) := State.frames_setFrames _ (State.cur_lt_of_frames hfr)
  refine ⟨(T.setVm vm').setFrames (.throwing q :: below), ?_, .threw q, X'.here.running, hend, Or.inr ⟨q, rfl, E, ce, locs, hx _ hT (X'.ends _).1.alike, hcell9, hv, hcl, (X'.ends _).1, (X'.ends _).2.mono hc hs, hf⟩⟩
  rw [X.pushThrowing_eq]
  exact st
/-- a thing of a world lies in the heap -/
theorem vx_lt {D : va_G} {cl : List vw_C} {ws : va_W} {H1 : Heap} (h : va_P D cl ws H1) {k : Nat} {q : Nat × va_E} (hk : ws[k]? = some q) : q.1 < H1.size := (h k q hk).lt
end VXS
/-! ===== END ===== -/
/-! ===== BEGIN methods with a table of their own: called by a name, returning or throwing ===== -/
section VXH
/-! vx_backW, vx_callVX, vx_callSX, vx_callVW, vx_runVW, vx_runVX, vx_runSX, vx_ofWH follow the same proofs as their sisters above (Free/Laws.lean, Shelf42/LK1.lean); vx_outP calls Shelf42/NT130.lean (outThrough). -/
section
variable {l : Launch} {R : Room} {p : Program} {e : Env} {below : List Frame} {s : State} {sargs : Array Value} {y : MethodName} {len W9 : Nat}
theorem vx_backW {ws : List Cond} {rm : Room} {Pc : Array Value → State → Prop} {Qc : Array Value → State → Outcome → State → Prop} {XC : String → State → State → Prop} {mc ms : Nat} {free : Addr → Prop} {bytes : ByteArray} {maxL : Nat} {ret : Option FieldType} {hh : List (Nat × Nat × Nat × Nat)}
    (hM : vx_Met l y ws rm Pc Qc XC mc ms free) (hblind : FrameBlind Pc) (hrc : rm.cells = mc) (hrs : rm.slots = ms)
    (hframes : rm.frames + 1 ≤ R.frames) (hlocals : W9 + (maxL + 11) + rm.locals ≤ R.locals)
    (hws : ∀ w ∈ ws, ∀ a' U, s.WarmedH U.vm → w.before a' U = true) (hcode : Cond.codeWith y bytes maxL ret hh ∈ ws) (hinit : ∀ a' U, s.WarmedH U.vm → (Cond.initialized y.cls).before a' U = true) :
    vx_Back l R p e below s sargs y len W9 (PreOf R mc ms Pc) (PostOf Qc mc ms free) (vx_Post XC mc ms free) := by
  intro m meth c A g ig mk a X hg hsize hdg hW hn hp
  have h1 : (headSpec ws rm).pre.before a A.U = true := atoms_intro fun w hw => hws w hw _ _ X.warmed
  have h2 : (Cond.codeWith y bytes maxL ret hh).before a A.U = true := hws _ hcode _ _ X.warmed
  have h3 : (Cond.initialized y.cls).before a A.U = true := hinit _ _ X.warmed
  have h4 : A.cells + (headSpec ws rm).room.cells ≤ R.cells := by rw [show (headSpec ws rm).room.cells = mc from hrc]; exact hp.1
  have h5 : A.slots + (headSpec ws rm).room.slots ≤ R.slots := by rw [show (headSpec ws rm).room.slots = ms from hrs]; exact hp.2.1
  have hPc : Pc a (A.U.calling g mk a) := hblind _ _ _ _ hp.2.2
  obtain ⟨U, Ls, c0, s0⟩ := A
  dsimp only [Pt.U, Pt.locs, Pt.cells, Pt.slots] at h1 h2 h3 h4 h5 X hn hPc ⊢
  obtain ⟨m9, methY, cY, hn9, hmY, hcY, -, hlY, -⟩ := Cond.codeWith_spec h2
  cases Option.some.inj (hn9.symm.trans hn)
  obtain ⟨kY, hkY, -⟩ := className_of_methodNamed hn
  have hinitY : kY.init = .initialized := Cond.initialized_spec (findClass_of_methodNamed hn) hkY h3
  have h : At U g.method c below := by rw [hg]; exact X.here
  have hlocals9 : W9 + (maxL + 11) + (headSpec ws rm).room.locals ≤ R.locals := hlocals
  have happ : (headSpec ws rm).appliesLoose y e.platform (U.calling g mk a) = true :=
    Spec.appliesLoose_calling (g := g) h hdg hn hkY hinitY
      (X.room_calling (g := g) (R' := (headSpec ws rm).room) hsize hmY hcY hframes (by rw [hlY]; omega) h4 h5) h1
  obtain ⟨mid, hmid⟩ := h.above
  have hfr : (U.setTop g).frames = (.java g :: mid) ++ below := by rw [State.frames_setTop' g h.top, hmid]; rfl
  obtain ⟨o, s₂, hsteps, -, hend, hq⟩ := Steps.callFree hM p X.admits X.cas X.clock (acts := []) hfr happ hPc trivial
  have hq' : vx_Q Qc XC mc ms free a (U.calling g mk a) o s₂ := hq
  rw [State.frames_setTop' g h.top] at hend
  obtain ⟨g₀, hg0⟩ := Option.isSome_iff_exists.mp h.top
  obtain ⟨r, hr⟩ := State.topJava?_eq_some.mp hg0
  have hr' : (({ U with heap := s₂.heap, slotsUsed := s₂.slotsUsed } : State).setVm s₂.vm).frames = .java g₀ :: r := hr
  rcases hq' with ⟨hqc, L, hfe, hL⟩ | ⟨q, rfl, E, ce, L, hx, hce, hcv, hcl, hW₂, hsm, hL⟩
  · obtain ⟨⟨v, rfl⟩, hW₂, e2, q2, q3, q4, q5, q6⟩ := id hfe
    have e3 : s₂ = ({ (U.calling g mk a).setFrames s₂.frames with heap := s₂.heap, slotsUsed := s₂.slotsUsed } : State).setVm s₂.vm := by
      have : s₂ = ({ s₂ with vm := (U.calling g mk a).vm } : State).setVm s₂.vm := rfl
      rw [e2] at this
      exact this
    obtain ⟨c₂, i₂, len₂, hc₂, hd₂, hf₂⟩ := hend
    have hW' : U.WarmedH s₂.vm := hW₂
    have hcc : c₂ = c := by
      have h1 : s₂.code? g.method = U.code? g.method := by
        rw [State.code?_eq, State.code?_eq, hW'.alike.method?]
      exact Option.some.inj (hc₂.symm.trans (h1.trans h.code))
    subst hcc
    have hlen : len₂ = len := by rw [hdg] at hd₂; cases hd₂; rfl
    subst hlen
    have hs₂ : s₂ = (({ U with heap := s₂.heap, slotsUsed := s₂.slotsUsed } : State).setVm s₂.vm).setTop { g with pc := g.pc + len₂, stack := v.toList ++ g.stack } := by
      refine e3.trans ?_
      rw [hf₂, State.calling_eq h.top, State.setFrames_setFrames, State.setTop_of_frames _ hr', hr]
      rfl
    have hsame : U.sameButNew ({ U with heap := s₂.heap, slotsUsed := s₂.slotsUsed } : State) L mc ms := by
      refine ⟨?_, q2, q3, q4, q5, q6⟩
      obtain ⟨t, ht, -⟩ := State.frames_cons hr
      show ({ U with heap := s₂.heap, slotsUsed := s₂.slotsUsed } : State) = { U.setFrames U.frames with heap := s₂.heap, slotsUsed := s₂.slotsUsed }
      rw [State.setFrames_self ht]
    subst hg
    refine Or.inl ⟨v, ⟨(({ U with heap := s₂.heap, slotsUsed := s₂.slotsUsed } : State).setVm s₂.vm), Ls ++ L, c0 + mc, s0 + ms⟩,
      ⟨X.admits, X.cas, X.clock, X.frames, X.room, X.hears, X.method, X.code, (X.here.setHeapUsed s₂.heap s₂.slotsUsed).setVm hW'.alike, X.tail, State.WarmedH.trans X.warmed hW', X.limits, X.bytes, X.same.trans (hsame.setVm s.vm)⟩,
      ⟨g, mk, s₂, L, rfl, rfl, hqc, rfl, hL, rfl, rfl⟩, ?_⟩
    show Steps p.tables e below _ ((({ U with heap := s₂.heap, slotsUsed := s₂.slotsUsed } : State).setVm s₂.vm).setTop { g with pc := g.pc + len₂, stack := v.toList ++ g.stack })
    rw [← hs₂]
    exact hsteps
  · obtain ⟨e2, q2, q3, q4, q5, q6⟩ := id hsm
    have e3 : s₂ = ({ (U.calling g mk a).setFrames s₂.frames with heap := s₂.heap, slotsUsed := s₂.slotsUsed } : State).setVm s₂.vm := by
      have : s₂ = ({ s₂ with vm := (U.calling g mk a).vm } : State).setVm s₂.vm := rfl
      rw [e2] at this
      exact this
    have hf₂ : s₂.frames = .throwing q :: .java g :: U.frames.tail := hend
    have hW' : U.WarmedH s₂.vm := hW₂
    have hs₂ : s₂ = ((({ U with heap := s₂.heap, slotsUsed := s₂.slotsUsed } : State).setVm s₂.vm).setTop g).pushFrame (.throwing q) := by
      refine e3.trans ?_
      rw [hf₂, State.calling_eq h.top, State.setFrames_setFrames, State.pushFrame, State.frames_setTop _ hr', State.setTop_of_frames _ hr', State.setFrames_setFrames, hr]
      rfl
    have hsame : U.sameButNew ({ U with heap := s₂.heap, slotsUsed := s₂.slotsUsed } : State) L mc ms := by
      refine ⟨?_, q2, q3, q4, q5, q6⟩
      obtain ⟨t, ht, -⟩ := State.frames_cons hr
      show ({ U with heap := s₂.heap, slotsUsed := s₂.slotsUsed } : State) = { U.setFrames U.frames with heap := s₂.heap, slotsUsed := s₂.slotsUsed }
      rw [State.setFrames_self ht]
    subst hg
    refine Or.inr ⟨q, ⟨(({ U with heap := s₂.heap, slotsUsed := s₂.slotsUsed } : State).setVm s₂.vm), Ls ++ L, c0 + mc, s0 + ms⟩,
      ⟨X.admits, X.cas, X.clock, X.frames, X.room, X.hears, X.method, X.code, (X.here.setHeapUsed s₂.heap s₂.slotsUsed).setVm hW'.alike, X.tail, State.WarmedH.trans X.warmed hW', X.limits, X.bytes, X.same.trans (hsame.setVm s.vm)⟩,
      ⟨g, mk, s₂, L, E, ce, rfl, rfl, hx, hce, hcv, hcl, rfl, hL, rfl, rfl⟩, ?_⟩
    show Steps p.tables e below _ (((({ U with heap := s₂.heap, slotsUsed := s₂.slotsUsed } : State).setVm s₂.vm).setTop g).pushFrame (.throwing q))
    rw [← hs₂]
    exact hsteps
end
variable {p : Program} {l : Launch} {e : Env} {R : Room} {s : State} {m : MethodId} {args : Array Value} {below : List Frame} {meth : Method} {c : Code} {T : State} {H : Heap} {locs : List Loc} {cells slots : Nat}
theorem vx_callVX (X : Stand p l e R s m args below meth c T locs cells slots) (hexec : p.tables.exec = Jvm.exec) {own C : String} {index : Nat} {y : MethodName} {bytes : ByteArray} {maxL : Nat} {ret : Option FieldType} {hh : List (Nat × Nat × Nat × Nat)}
    (hown : s.vm.findClass own = some m.cls) (hlink : (Cond.methodLink own index y).before args s = true) (hinst : (Cond.instanceMethod y).before args s = true) (hsel : (Cond.selects C y y).before args s = true)
    (hcode : (Cond.codeWith y bytes maxL ret hh).before args s = true) (hy : y.cls ≠ "java/lang/invoke/MethodHandle" ∧ y.cls ≠ "java/lang/invoke/VarHandle")
    {W9 : Nat} {Pre : Pt → Array Value → Prop} {Post : Pt → Array Value → Option Value → Pt → Prop} {PostX : Pt → Array Value → Addr → Pt → Prop} (hK : vx_Back l R p e below s args y 3 W9 Pre Post PostX)
    {b : Addr} {cellB : Cell} (hcell : T.heap[b]? = some cellB) (hobj : cellB.vm.isStatics = false) (hcls : s.vm.findClass C = some cellB.cls)
    {g : JFrame} (hg : g.method = m) (hsize : g.locals.size = c.maxLocals) {argsL rest : List Value} (hlen : ∀ sig, parseMethodDescriptor y.desc = some sig → argsL.length = sig.parameters.length)
    (hstack : g.stack = argsL.reverse ++ .ref b :: rest) (hW : 2 * g.monitorRoom + (rest.map fun v => v.category).sum ≤ W9) (hdg : decode c.code g.pc = .ok (.invokevirtual index, 3))
    (hpre : ∀ vm₁, s.WarmedH vm₁ → Pre ⟨T.setVm vm₁, locs, cells, slots⟩ (Value.ref b :: argsL).toArray) :
    (∃ (v : Option Value) (vm₁ : Vm) (B : Pt), s.WarmedH vm₁ ∧ Stand p l e R s m args below meth c B.U B.locs B.cells B.slots ∧ Post ⟨T.setVm vm₁, locs, cells, slots⟩ (Value.ref b :: argsL).toArray v B ∧
      ∀ target, Steps p.tables e below (B.U.setTop { g with pc := g.pc + 3, stack := v.toList ++ rest }) target → Steps p.tables e below (T.setTop g) target) ∨
    (∃ (q : Addr) (vm₁ : Vm) (B : Pt), s.WarmedH vm₁ ∧ Stand p l e R s m args below meth c B.U B.locs B.cells B.slots ∧ PostX ⟨T.setVm vm₁, locs, cells, slots⟩ (Value.ref b :: argsL).toArray q B ∧
      Steps p.tables e below (T.setTop g) ((B.U.setTop { g with stack := rest }).pushFrame (.throwing q))) := by
  obtain ⟨mk, methM, hnamed, hmethM, hstM, habM⟩ := Cond.instanceMethod_spec hinst
  obtain ⟨m8, methM', cM, hn8, hmethM', -, -, -, -, -, -, hsigM⟩ := Cond.codeWith_spec hcode
  cases Option.some.inj (hn8.symm.trans hnamed)
  cases hmethM.symm.trans hmethM'
  obtain ⟨c2, r2, m2, q1, q2, q3, q4, kP, hkP, hkPi⟩ := Cond.selects_spec hsel
  cases hcls.symm.trans q1
  cases (State.methodFound?_of_named hnamed hy).symm.trans q2
  cases hnamed.symm.trans q3
  have hselP : selectMethod e.platform s.vm cellB.cls mk = .method mk := by rw [Launch.admits_selectMethod X.admits]; exact q4
  obtain ⟨vm₁, X₁, hstep₁⟩ := X.invokevirtual hexec hown hlink hnamed hmethM hstM hkP hkPi hy (a := b) (cell := cellB) hcell
    (fun z h => by rw [h] at hobj; cases hobj) hselP hmethM habM hkP hkPi (g := g) hg (argsL := argsL) (rest := rest) (hlen _ hsigM) hstack hdg
  rcases hK m meth c ⟨T.setVm vm₁, locs, cells, slots⟩ { g with stack := rest } (.invokevirtual index) mk (Value.ref b :: argsL).toArray X₁ hg hsize hdg hW (X₁.named hnamed) (hpre vm₁ X₁.warmed) with ⟨v, B, X', hpost, hsteps⟩ | ⟨q, B, X', hpost, hsteps⟩
  · exact Or.inl ⟨v, vm₁, B, X₁.warmed, X', hpost, fun target h => hstep₁ _ fun acts => by rw [doInvoke_state]; exact hsteps.trans h⟩
  · exact Or.inr ⟨q, vm₁, B, X₁.warmed, X', hpost, hstep₁ _ fun acts => by rw [doInvoke_state]; exact hsteps⟩
theorem vx_callSX (X : Stand p l e R s m args below meth c T locs cells slots) (hexec : p.tables.exec = Jvm.exec) {own : String} {index : Nat} {y : MethodName} {bytes : ByteArray} {maxL : Nat} {ret : Option FieldType} {hh : List (Nat × Nat × Nat × Nat)}
    (hown : s.vm.findClass own = some m.cls) (hlink : (Cond.methodLink own index y).before args s = true) (hstat : (Cond.static y).before args s = true) (hinit : (Cond.initialized y.cls).before args s = true)
    (hcode : (Cond.codeWith y bytes maxL ret hh).before args s = true) (hy : y.cls ≠ "java/lang/invoke/MethodHandle" ∧ y.cls ≠ "java/lang/invoke/VarHandle")
    {W9 : Nat} {Pre : Pt → Array Value → Prop} {Post : Pt → Array Value → Option Value → Pt → Prop} {PostX : Pt → Array Value → Addr → Pt → Prop} (hK : vx_Back l R p e below s args y 3 W9 Pre Post PostX)
    {g : JFrame} (hg : g.method = m) (hsize : g.locals.size = c.maxLocals) {argsL rest : List Value} (hlen : ∀ sig, parseMethodDescriptor y.desc = some sig → argsL.length = sig.parameters.length)
    (hstack : g.stack = argsL.reverse ++ rest) (hW : 2 * g.monitorRoom + (rest.map fun v => v.category).sum ≤ W9) (hdg : decode c.code g.pc = .ok (.invokestatic index, 3))
    (hpre : ∀ vm₁, s.WarmedH vm₁ → Pre ⟨T.setVm vm₁, locs, cells, slots⟩ argsL.toArray) :
    (∃ (v : Option Value) (vm₁ : Vm) (B : Pt), s.WarmedH vm₁ ∧ Stand p l e R s m args below meth c B.U B.locs B.cells B.slots ∧ Post ⟨T.setVm vm₁, locs, cells, slots⟩ argsL.toArray v B ∧
      ∀ target, Steps p.tables e below (B.U.setTop { g with pc := g.pc + 3, stack := v.toList ++ rest }) target → Steps p.tables e below (T.setTop g) target) ∨
    (∃ (q : Addr) (vm₁ : Vm) (B : Pt), s.WarmedH vm₁ ∧ Stand p l e R s m args below meth c B.U B.locs B.cells B.slots ∧ PostX ⟨T.setVm vm₁, locs, cells, slots⟩ argsL.toArray q B ∧
      Steps p.tables e below (T.setTop g) ((B.U.setTop { g with stack := rest }).pushFrame (.throwing q))) := by
  obtain ⟨mk, methM, cM, hnamed, hmethM, -, -, -, -, -, -, hsigM⟩ := Cond.codeWith_spec hcode
  have hstatic : methM.isStatic = true := Cond.static_spec hnamed hmethM hstat
  obtain ⟨kP, hkP, -⟩ := className_of_methodNamed hnamed
  have hinitP : kP.init = .initialized := Cond.initialized_spec (findClass_of_methodNamed hnamed) hkP hinit
  obtain ⟨vm₁, X₁, hstep₁⟩ := X.invokestatic hexec hown hlink hnamed hmethM hstatic hkP hinitP hy (g := g) hg (argsL := argsL) (rest := rest) (hlen _ hsigM) hstack hdg
  rcases hK m meth c ⟨T.setVm vm₁, locs, cells, slots⟩ { g with stack := rest } (.invokestatic index) mk argsL.toArray X₁ hg hsize hdg hW (X₁.named hnamed) (hpre vm₁ X₁.warmed) with ⟨v, B, X', hpost, hsteps⟩ | ⟨q, B, X', hpost, hsteps⟩
  · exact Or.inl ⟨v, vm₁, B, X₁.warmed, X', hpost, fun target h => hstep₁ _ fun acts => by rw [doInvoke_state]; exact hsteps.trans h⟩
  · exact Or.inr ⟨q, vm₁, B, X₁.warmed, X', hpost, hstep₁ _ fun acts => by rw [doInvoke_state]; exact hsteps⟩
theorem vx_callVW (X : Stand p l e R s m args below meth c T locs cells slots) (hexec : p.tables.exec = Jvm.exec) {own C : String} {index : Nat} {y : MethodName} {bytes : ByteArray} {maxL : Nat} {ret : Option FieldType} {hh : List (Nat × Nat × Nat × Nat)}
    (hown : s.vm.findClass own = some m.cls) (hlink : (Cond.methodLink own index y).before args s = true) (hinst : (Cond.instanceMethod y).before args s = true) (hsel : (Cond.selects C y y).before args s = true)
    (hcode : (Cond.codeWith y bytes maxL ret hh).before args s = true) (hy : y.cls ≠ "java/lang/invoke/MethodHandle" ∧ y.cls ≠ "java/lang/invoke/VarHandle")
    {W9 : Nat} {Pre : Pt → Array Value → Prop} {Post : Pt → Array Value → Option Value → Pt → Prop} (hK : Back l R p e below s args y 3 W9 Pre Post)
    {b : Addr} {cellB : Cell} (hcell : T.heap[b]? = some cellB) (hobj : cellB.vm.isStatics = false) (hcls : s.vm.findClass C = some cellB.cls)
    {g : JFrame} (hg : g.method = m) (hsize : g.locals.size = c.maxLocals) {argsL rest : List Value} (hlen : ∀ sig, parseMethodDescriptor y.desc = some sig → argsL.length = sig.parameters.length)
    (hstack : g.stack = argsL.reverse ++ .ref b :: rest) (hW : 2 * g.monitorRoom + (rest.map fun v => v.category).sum ≤ W9) (hdg : decode c.code g.pc = .ok (.invokevirtual index, 3))
    (hpre : ∀ vm₁, s.WarmedH vm₁ → Pre ⟨T.setVm vm₁, locs, cells, slots⟩ (Value.ref b :: argsL).toArray) :
    ∃ (v : Option Value) (vm₁ : Vm) (B : Pt), s.WarmedH vm₁ ∧ Stand p l e R s m args below meth c B.U B.locs B.cells B.slots ∧ Post ⟨T.setVm vm₁, locs, cells, slots⟩ (Value.ref b :: argsL).toArray v B ∧
      ∀ target, Steps p.tables e below (B.U.setTop { g with pc := g.pc + 3, stack := v.toList ++ rest }) target → Steps p.tables e below (T.setTop g) target := by
  obtain ⟨mk, methM, hnamed, hmethM, hstM, habM⟩ := Cond.instanceMethod_spec hinst
  obtain ⟨m8, methM', cM, hn8, hmethM', -, -, -, -, -, -, hsigM⟩ := Cond.codeWith_spec hcode
  cases Option.some.inj (hn8.symm.trans hnamed)
  cases hmethM.symm.trans hmethM'
  obtain ⟨c2, r2, m2, q1, q2, q3, q4, kP, hkP, hkPi⟩ := Cond.selects_spec hsel
  cases hcls.symm.trans q1
  cases (State.methodFound?_of_named hnamed hy).symm.trans q2
  cases hnamed.symm.trans q3
  have hselP : selectMethod e.platform s.vm cellB.cls mk = .method mk := by rw [Launch.admits_selectMethod X.admits]; exact q4
  obtain ⟨vm₁, X₁, hstep₁⟩ := X.invokevirtual hexec hown hlink hnamed hmethM hstM hkP hkPi hy (a := b) (cell := cellB) hcell
    (fun z h => by rw [h] at hobj; cases hobj) hselP hmethM habM hkP hkPi (g := g) hg (argsL := argsL) (rest := rest) (hlen _ hsigM) hstack hdg
  obtain ⟨v, B, X', hpost, hsteps⟩ := hK m meth c ⟨T.setVm vm₁, locs, cells, slots⟩ { g with stack := rest } (.invokevirtual index) mk (Value.ref b :: argsL).toArray X₁ hg hsize hdg hW (X₁.named hnamed) (hpre vm₁ X₁.warmed)
  exact ⟨v, vm₁, B, X₁.warmed, X', hpost, fun target h => hstep₁ _ fun acts => by rw [doInvoke_state]; exact hsteps.trans h⟩
abbrev vx_CVW (R : Room) (s : State) (args : Array Value) (own C : String) (index : Nat) (y : MethodName) (bytes : ByteArray) (maxL : Nat) (ret : Option FieldType) (hh : List (Nat × Nat × Nat × Nat)) (ws : List Cond) (rm : Room) (mc ms n : Nat) : Prop :=
  (rm.cells = mc ∧ rm.slots = ms ∧ rm.frames + 1 ≤ R.frames ∧ 8 + (maxL + 11) + rm.locals ≤ R.locals ∧ (∀ w ∈ ws, ∀ (a' : Array Value) (U : State), s.WarmedH U.vm → w.before a' U = true) ∧ Cond.codeWith y bytes maxL ret hh ∈ ws) ∧
  (Cond.codeWith y bytes maxL ret hh).before args s = true ∧ (Cond.initialized y.cls).before args s = true ∧ (y.cls ≠ "java/lang/invoke/MethodHandle" ∧ y.cls ≠ "java/lang/invoke/VarHandle") ∧
  (∀ sig, parseMethodDescriptor y.desc = some sig → n = sig.parameters.length) ∧ (Cond.methodLink own index y).before args s = true ∧ (Cond.instanceMethod y).before args s = true ∧ (Cond.selects C y y).before args s = true
theorem vx_cwVW {own C : String} {index maxL mc ms : Nat} {y : MethodName} {bytes : ByteArray} {ret : Option FieldType} {hh : List (Nat × Nat × Nat × Nat)} {Ts ws ws' : List Cond} {rm : Room} (n : Nat) (ht : ∀ w ∈ Ts, w.before args s = true) (hT : GoodIn Ts (wsV own index C y ws)) (hw : ws = Cond.codeWith y bytes maxL ret hh :: ws') (hrc : rm.cells = mc) (hrs : rm.slots = ms)
    (hd : y.cls = C ∧ y.cls ≠ "java/lang/invoke/MethodHandle" ∧ y.cls ≠ "java/lang/invoke/VarHandle" ∧ (parseMethodDescriptor y.desc).map (fun d => d.parameters.length) = some n) (hR : rm.frames + 1 ≤ R.frames ∧ 8 + (maxL + 11) + rm.locals ≤ R.locals) :
    vx_CVW R s args own C index y bytes maxL ret hh ws rm mc ms n := by
  obtain ⟨hC, hd⟩ := hd
  subst hC
  have ok : ∀ w ∈ wsV own index y.cls y ws, w.before args s = true := fun w h => ht w (hT w h).1
  have hG : GoodIn Ts ws := fun w h => hT w (by unfold wsV; exact List.mem_append_right _ h)
  have hc : Cond.codeWith y bytes maxL ret hh ∈ ws := by rw [hw]; exact List.mem_cons_self
  refine ⟨⟨hrc, hrs, hR.1, hR.2, pay_in ht hG, hc⟩, ht _ (hG _ hc).1, ok _ (by simp [wsV]), ⟨hd.1, hd.2.1⟩, fun sig h => ?_, ok _ (by simp [wsV]), ok _ (by simp [wsV]), ok _ (by simp [wsV])⟩
  have h2 := hd.2.2
  rw [h] at h2
  exact (Option.some.inj h2).symm
theorem vx_runVW {y : MethodName} {bytes cc : ByteArray} {maxL nL mc ms n index : Nat} {ret : Option FieldType} {hh : List (Nat × Nat × Nat × Nat)} {ws : List Cond} {rm : Room} {Pc : Array Value → State → Prop} {Qc : Array Value → State → Outcome → State → Prop} {free : Addr → Prop} {Ts : List Cond} {own C : String} {b : Addr} {As rest : List Value} {g : JFrame}
    (S : CallFix p m c cc nL s args Ts own) (hM : Met l y ws rm Pc Qc mc ms free) (cw : vx_CVW R s args own C index y bytes maxL ret hh ws rm mc ms n) (hp : PreV s H C b Pc As)
    (hg : g.method = m) (hn : As.length = n) (hsize : g.locals.size = nL) (hstack : g.stack = As.reverse ++ .ref b :: rest) (hW : 2 * g.monitorRoom + (rest.map fun v => v.category).sum ≤ 8) (hdg : decode cc g.pc = .ok (.invokevirtual index, 3)) (hf : cells + mc ≤ R.cells ∧ slots + ms ≤ R.slots) :
    va_Run p l e R s m args below meth c H locs cells slots mc ms g rest (Qc (Value.ref b :: As).toArray) free := by
  obtain ⟨⟨hrc, hrs, hfr, hlo, hws, hcw⟩, hcode, hini, hy, hlen, hl, hin, hse⟩ := cw
  have hK : Back l R p e below s args y 3 8 (PreOf R mc ms Pc) (PostOf Qc mc ms free) := va_backW (hh := hh) (bytes := bytes) (maxL := maxL) (ret := ret) hM hp.1 hrc hrs hfr hlo hws hcw (fun a' U hW => word_at hW (Or.inl (by first | rfl | simp [Cond.onTables, Cond.keeps, Cond.steady])) hini)
  obtain ⟨hx, hb, hml, ho, -⟩ := S
  obtain ⟨-, ⟨cellB, hcB, hoB, hclB⟩, hPc⟩ := hp
  intro T hT X
  obtain ⟨v, vm₁, ⟨U', l2, c2, s2⟩, hW₁, X', ⟨g', mk, t, L, e1, e2, hq, h1, hL, h2, h3⟩, st⟩ := vx_callVW X hx (C := C) (hh := hh) (bytes := bytes) (maxL := maxL) (ret := ret) ho hl hin hse hcode hy hK (by rw [hT]; exact hcB) hoB hclB hg (hsize.trans hml.symm) (argsL := As) (rest := rest) (fun sig h => hn.trans (hlen sig h)) hstack hW (by rw [hb]; exact hdg)
    (fun vm₁ hW₁ => ⟨hf.1, hf.2, hPc (T.setVm vm₁) hT hW₁⟩)
  dsimp only [Pt.U, Pt.locs, Pt.cells, Pt.slots] at X' e1 e2 h1 h2 h3 st
  subst h1; subst h2; subst h3
  exact ⟨v, (T.setVm vm₁).calling g' mk (Value.ref b :: As).toArray, t, U', L, hT, X', hL, e1, e2, hq, st⟩
section
variable {y : MethodName} {bytes cc : ByteArray} {maxL nL mc ms n index : Nat} {ret : Option FieldType} {ws : List Cond} {rm : Room} {Pc : Array Value → State → Prop} {Qc : Array Value → State → Outcome → State → Prop} {XC : String → State → State → Prop} {free : Addr → Prop} {Ts : List Cond} {own C : String} {b : Addr} {As rest : List Value} {g : JFrame}
theorem vx_runVX {hh : List (Nat × Nat × Nat × Nat)} (S : CallFix p m c cc nL s args Ts own) (hM : vx_Met l y ws rm Pc Qc XC mc ms free) (cw : vx_CVW R s args own C index y bytes maxL ret hh ws rm mc ms n) (hp : PreV s H C b Pc As)
    (hg : g.method = m) (hn : As.length = n) (hsize : g.locals.size = nL) (hstack : g.stack = As.reverse ++ .ref b :: rest) (hW : 2 * g.monitorRoom + (rest.map fun v => v.category).sum ≤ 8) (hdg : decode cc g.pc = .ok (.invokevirtual index, 3)) (hf : cells + mc ≤ R.cells ∧ slots + ms ≤ R.slots) :
    vx_Run p l e R s m args below meth c H locs cells slots mc ms g rest (Qc (Value.ref b :: As).toArray) XC free := by
  obtain ⟨⟨hrc, hrs, hfr, hlo, hws, hcw⟩, hcode, hini, hy, hlen, hl, hin, hse⟩ := cw
  have hK : vx_Back l R p e below s args y 3 8 (PreOf R mc ms Pc) (PostOf Qc mc ms free) (vx_Post XC mc ms free) := vx_backW (hh := hh) (bytes := bytes) (maxL := maxL) (ret := ret) hM hp.1 hrc hrs hfr hlo hws hcw (fun a' U hW => word_at hW (Or.inl (by first | rfl | simp [Cond.onTables, Cond.keeps, Cond.steady])) hini)
  obtain ⟨hx, hb, hml, ho, -⟩ := S
  obtain ⟨-, ⟨cellB, hcB, hoB, hclB⟩, hPc⟩ := hp
  intro T hT X
  rcases vx_callVX X hx (C := C) (hh := hh) (bytes := bytes) (maxL := maxL) (ret := ret) ho hl hin hse hcode hy hK (by rw [hT]; exact hcB) hoB hclB hg (hsize.trans hml.symm) (argsL := As) (rest := rest) (fun sig h => hn.trans (hlen sig h)) hstack hW (by rw [hb]; exact hdg)
    (fun vm₁ hW₁ => ⟨hf.1, hf.2, hPc (T.setVm vm₁) hT hW₁⟩) with ⟨v, vm₁, ⟨U', l2, c2, s2⟩, hW₁, X', ⟨g', mk, t, L, e1, e2, hq, h1, hL, h2, h3⟩, st⟩ | ⟨q, vm₁, ⟨U', l2, c2, s2⟩, hW₁, X', ⟨g', mk, t, L, E, ce, e1, e2, hq, hce, hcv, hcl, h1, hL, h2, h3⟩, st⟩
  · dsimp only [Pt.U, Pt.locs, Pt.cells, Pt.slots] at X' e1 e2 h1 h2 h3 st
    subst h1; subst h2; subst h3
    exact Or.inl ⟨v, (T.setVm vm₁).calling g' mk (Value.ref b :: As).toArray, t, U', L, hT, X', hL, e1, e2, hq, st⟩
  · dsimp only [Pt.U, Pt.locs, Pt.cells, Pt.slots] at X' e1 e2 h1 h2 h3 st hcl
    subst h1; subst h2; subst h3
    exact Or.inr ⟨q, (T.setVm vm₁).calling g' mk (Value.ref b :: As).toArray, t, U', L, E, ce, hT, X', hL, e1, e2, hq, hce, hcv, vx_cls hW₁ hcl, st⟩
theorem vx_runSX {hh : List (Nat × Nat × Nat × Nat)} (S : CallFix p m c cc nL s args Ts own) (hM : vx_Met l y ws rm Pc Qc XC mc ms free) (cw : vx_CSW R s args own index y bytes maxL ret hh ws rm mc ms n) (hp : PreS s H Pc As)
    (hg : g.method = m) (hn : As.length = n) (hsize : g.locals.size = nL) (hstack : g.stack = As.reverse ++ rest) (hW : 2 * g.monitorRoom + (rest.map fun v => v.category).sum ≤ 8) (hdg : decode cc g.pc = .ok (.invokestatic index, 3)) (hf : cells + mc ≤ R.cells ∧ slots + ms ≤ R.slots) :
    vx_Run p l e R s m args below meth c H locs cells slots mc ms g rest (Qc As.toArray) XC free := by
  obtain ⟨⟨hrc, hrs, hfr, hlo, hws, hcw⟩, hcode, hini, hy, hlen, hl, hstt⟩ := cw
  have hK : vx_Back l R p e below s args y 3 8 (PreOf R mc ms Pc) (PostOf Qc mc ms free) (vx_Post XC mc ms free) := vx_backW (hh := hh) (bytes := bytes) (maxL := maxL) (ret := ret) hM hp.1 hrc hrs hfr hlo hws hcw (fun a' U hW => word_at hW (Or.inl (by first | rfl | simp [Cond.onTables, Cond.keeps, Cond.steady])) hini)
  obtain ⟨hx, hb, hml, ho, -⟩ := S
  intro T hT X
  rcases vx_callSX X hx (hh := hh) (bytes := bytes) (maxL := maxL) (ret := ret) ho hl hstt hini hcode hy hK hg (hsize.trans hml.symm) (argsL := As) (rest := rest) (fun sig h => hn.trans (hlen sig h)) hstack hW (by rw [hb]; exact hdg)
    (fun vm₁ hW₁ => ⟨hf.1, hf.2, hp.2 (T.setVm vm₁) hT hW₁⟩) with ⟨v, vm₁, ⟨U', l2, c2, s2⟩, hW₁, X', ⟨g', mk, t, L, e1, e2, hq, h1, hL, h2, h3⟩, st⟩ | ⟨q, vm₁, ⟨U', l2, c2, s2⟩, hW₁, X', ⟨g', mk, t, L, E, ce, e1, e2, hq, hce, hcv, hcl, h1, hL, h2, h3⟩, st⟩
  · dsimp only [Pt.U, Pt.locs, Pt.cells, Pt.slots] at X' e1 e2 h1 h2 h3 st
    subst h1; subst h2; subst h3
    exact Or.inl ⟨v, (T.setVm vm₁).calling g' mk As.toArray, t, U', L, hT, X', hL, e1, e2, hq, st⟩
  · dsimp only [Pt.U, Pt.locs, Pt.cells, Pt.slots] at X' e1 e2 h1 h2 h3 st hcl
    subst h1; subst h2; subst h3
    exact Or.inr ⟨q, (T.setVm vm₁).calling g' mk As.toArray, t, U', L, E, ce, hT, X', hL, e1, e2, hq, hce, hcv, vx_cls hW₁ hcl, st⟩
end
end VXH
theorem vx_ofWH {l : Launch} {y : MethodName} {ws ws' : List Cond} {rm : Room} {Pc : Array Value → State → Prop} {Qc : Array Value → State → Outcome → State → Prop} {XC : String → State → State → Prop} {mc ms : Nat} {free : Addr → Prop} {cc : ByteArray} {maxL : Nat} {ret : Option FieldType} {hh : List (Nat × Nat × Nat × Nat)}
    (hy : plainName y.cls = true) (hw : ws = Cond.codeWith y cc maxL ret hh :: ws')
    (body : ∀ p e s m args below meth c s₁, BodyLoose p l y (headSpec ws rm) cc maxL ret e s m args below meth c s₁ → c.maxLocals = maxL → Pc args s →
      W p l e (headSpec ws rm).room s m args below meth c s.heap [] 0 0 (vx_MQ below Qc XC args s mc ms free) (entryFrame m args maxL)) : vx_Met l y ws rm Pc Qc XC mc ms free := by
  refine MetFree.of_bodyS (code := cc) (maxLocals := maxL) (ret := ret) hy ?_ ?_
  · intro args s m h hn
    obtain ⟨m9, meth, c, hn9, h1, h2, h3, h4, -, h5, h6, -⟩ := Cond.codeWith_spec (atoms_spec (ws := ws) h _ (by rw [hw]; exact List.mem_cons_self))
    cases hn.symm.trans hn9
    exact ⟨meth, c, h1, h2, h3, h4, h5, h6⟩
  · intro p e s m args below meth c s₁ B hml hP _
    have hh0 : s₁.heap = s.heap := by rw [B.state]; rfl
    obtain ⟨t, a1, o, b1, b2, b3⟩ := body p e s m args below meth c s₁ B hml hP s₁ hh0 (Stand.of_body B)
    exact ⟨t, o, a1, b1, b2, b3⟩
/-! ===== END ===== -/
/-! ===== BEGIN what the machine throws by itself, no traces kept ===== -/
section VXM
set_option maxHeartbeats 1000000 in
/-- the machine throws cls with the message text, no traces kept: from its note over the frame g to 'throwing' over the same frame (follows the proofs of Stand.vmThrowsMessage, Shelf/KitTracedVmS.lean, and Stand.throwsMessageColdBareV, StandMessageColdV.lean, without the step out of the frame) -/
theorem vx_vmAt {p : Program} {l : Launch} {e : Env} {R : Room} {s : State} {m₀ : MethodId} {args : Array Value} {below : List Frame} {meth : Method} {c : Code} {W : State} {locs : List Loc} {cells slots : Nat}
    (X : Stand p l e R s m₀ args below meth c W locs cells slots) (hexec : p.tables.exec = Jvm.exec) (htr : e.platform.stackTraces = false) {cls : String} {names : List String} {text : String}
    (hcls : Bundle.fit cls = true) (hnames : ∀ n ∈ names, Bundle.fit n = true) (hsoe : (cls == "java/lang/StackOverflowError") = false) (hoom : (cls == "java/lang/OutOfMemoryError") = false)
    (h : ∀ a ∈ Bundle.messageArmAtoms cls names, a.before args s = true)
    (hlocs : ∀ x ∈ locs, ∀ cell, s.heap[x.base]? = some cell → cell.vm.isStatics = false)
    (htext : (text == notModelled) = false) (hlimit : ¬ (stringBytes (stringToUtf16 text)).size > e.platform.arrayLengthLimit) (hheap : ¬ (stringBytes (stringToUtf16 text)).size * componentBytes .byte > e.platform.maxHeapBytes)
    {g : JFrame} (hg : g.method = m₀) (hsize : g.locals.size = c.maxLocals)
    (hRframes : names.length + 4 < R.frames) (hRlocals : 2 * g.monitorRoom + (g.stack.map fun v => v.category).sum + 10240 ≤ R.locals) (hshort : 13 * names.length + 55 ≤ 10240)
    (hRcells : cells + 3 ≤ R.cells) (hRslots : slots + ((stringBytes (stringToUtf16 text)).size + 4 + 6) ≤ R.slots) (hlocks : meth.locks = false) :
    ∃ (S : State) (q : Addr) (ce : Cell), (∀ target, Steps p.tables e below ((S.setTop g).pushFrame (.throwing q)) target → Steps p.tables e below ((W.setTop g).pushFrame (.throwNew cls (some text) none)) target) ∧
      Stand p l e R s m₀ args below meth c S locs (cells + 3) (slots + ((stringBytes (stringToUtf16 text)).size + 4 + 6)) ∧ S.heap[q]? = some ce ∧ s.vm.findClass cls = some ce.cls ∧ ce.vm = .none := by
  have howns : e.platform.frameOwnsMonitors = true := by rw [X.admits.platform]
  have hfin : e.platform.finalization = false := by rw [X.admits.platform]
  have hpl : e.platform.magicAccessors = ({} : Platform).magicAccessors := by rw [X.admits.platform]
  have a : ∀ x, x ∈ Bundle.messageArmAtoms cls names → x.holds args s none s [] = true := fun x hx => h x hx
  obtain ⟨T, Z0, L, -, Y⟩ := ThrowableC.of_atoms (args := args) howns hfin hpl (fun x hx => h x (by simp [Bundle.messageArmAtoms, hx]))
  obtain ⟨Z, M, LZ, LM, hnZ⟩ := Init0T.ofS_atoms (args := args) hpl L Y (fun x hx => h x (by simp [Bundle.messageArmAtoms, hx]))
  obtain ⟨P1, Ps, hlen, L1, hL, hP1m, hlink1, hlink⟩ := Bundle.chainS (args := args) hpl hnZ names cls hcls hnames (fun x hx => h x (by simp [Bundle.messageArmAtoms, hx]))
  obtain ⟨Zs, LZs, hn4, hfitv, hfitc⟩ := StringT.of_atoms (args := args) (fun x hx => h x (by simp [Bundle.messageArmAtoms, hx]))
  have hfound : s.vm.findClass cls = some P1.m.cls := findClass_of_methodNamed hP1m
  obtain ⟨c1, kX, hc1, hk, hord, -, -, hn6⟩ := Cond.instantiable_spec (a (.instantiable cls 6) (by simp [Bundle.messageArmAtoms]))
  cases Option.some.inj (hc1.symm.trans hfound)
  have hinit := Cond.initialized_spec hfound hk (a (.initialized cls) (by simp [Bundle.messageArmAtoms]))
  have hctor : kX.findMethod "<init>" "(Ljava/lang/String;)V" = some P1.m.idx := findMethod_of_methodNamed hP1m hk
  have hsel0 : selectMethod e.platform s.vm P1.m.cls T.fill0 = .method T.fill0 := by
    obtain ⟨c2, r2, m2, q1, q2, q3, q4, -⟩ := Cond.selects_spec (a (.selects cls Bundle.tFill0 Bundle.tFill0) (by simp [Bundle.messageArmAtoms]))
    cases Option.some.inj (q1.symm.trans hfound)
    cases Option.some.inj (q2.symm.trans (State.methodFound?_of_named Y.fill0 (by decide)))
    cases Option.some.inj (q3.symm.trans Y.fill0)
    rw [Launch.admits_selectMethod X.admits]; exact q4
  have hselF : selectMethod e.platform s.vm P1.m.cls T.fill = .method T.fill := by
    obtain ⟨c2, r2, m2, q1, q2, q3, q4, -⟩ := Cond.selects_spec (a (.selects cls Bundle.tFill Bundle.tFill) (by simp [Bundle.messageArmAtoms]))
    cases Option.some.inj (q1.symm.trans hfound)
    cases Option.some.inj (q2.symm.trans (State.methodFound?_of_named Y.fill (by decide)))
    cases Option.some.inj (q3.symm.trans Y.fill)
    rw [Launch.admits_selectMethod X.admits]; exact q4
  obtain ⟨cellS0, hcS0, hiss⟩ := Y.statics
  obtain ⟨u0, hu0⟩ := Cond.staticRefV Y.unassigned L.unassignedStatic L.statics hcS0 hiss (a (.isRef (.static Bundle.tN "UNASSIGNED_STACK" Bundle.steD)) (by simp [Bundle.messageArmAtoms]))
  obtain ⟨sen, hsen⟩ := Cond.staticRefV Y.sentinel L.sentinelStatic L.statics hcS0 hiss (a (.isRef (.static Bundle.tN "SUPPRESSED_SENTINEL" Bundle.listD)) (by simp [Bundle.messageArmAtoms]))
  obtain ⟨ci198, i198, fB, hk198, hg198, ha198, hsB, -, hnB, htB, hffB⟩ := Cond.ownField (t := .object "java/lang/Object") Y.found L.cls (by decide +kernel) (a (.fieldLink Bundle.tN 198 Bundle.tN "backtrace" "Ljava/lang/Object;") (by simp [Bundle.messageArmAtoms])) (a (.lays Bundle.tN Bundle.tN "backtrace" "Ljava/lang/Object;") (by simp [Bundle.messageArmAtoms])) e.platform hpl
  obtain ⟨cellS, hcS', heS, -, hkeep⟩ := X.same.2.2.2.2.2 T.aS cellS0 hcS0
  have hcellS : W.heap[T.aS]? = some cellS := hcS'
  have hout' : ∀ i, (⟨T.aS, i⟩ : Loc) ∉ locs := fun i hmem => by
    have := hlocs _ hmem cellS0 hcS0
    rw [hiss] at this; cases this
  have hknownS : cellS.vm ≠ .unknown := by
    rw [heS]; intro hu
    rw [show cellS0.vm = .unknown from hu] at hiss
    cases hiss
  have hvU : cellS.slots[T.fUnassigned.slot]? = some u0.v := by rw [hkeep _ (hout' _)]; exact hu0
  have hvSen : cellS.slots[T.fSentinel.slot]? = some sen.v := by rw [hkeep _ (hout' _)]; exact hsen
  obtain ⟨iM, hffM⟩ := Y.msg
  obtain ⟨tyC, dC, hdC, hdnC⟩ := Cond.laysAt hfound hk Y.cause (a (.lays cls Bundle.tN "cause" "Ljava/lang/Throwable;") (by simp [Bundle.messageArmAtoms]))
  obtain ⟨tyS, dS, hdS, hdnS⟩ := Cond.laysAt hfound hk Y.stack (a (.lays cls Bundle.tN "stackTrace" Bundle.steD) (by simp [Bundle.messageArmAtoms]))
  obtain ⟨tyP, dP, hdP, hdnP⟩ := Cond.laysAt hfound hk Y.supp (a (.lays cls Bundle.tN "suppressedExceptions" Bundle.listD) (by simp [Bundle.messageArmAtoms]))
  obtain ⟨tyM, dM, hdM, hdnM⟩ := Cond.laysAt hfound hk hffM (a (.lays cls Bundle.tN "detailMessage" "Ljava/lang/String;") (by simp [Bundle.messageArmAtoms]))
  obtain ⟨tyB, dB, hdB, hdnB⟩ := Cond.laysAt hfound hk hffB (a (.lays cls Bundle.tN "backtrace" "Ljava/lang/Object;") (by simp [Bundle.messageArmAtoms]))
  have bC := Cond.laysApart hdB hdC hdnB hdnC (by rw [hnB, Y.causeName]; decide)
  have bS := Cond.laysApart hdB hdS hdnB hdnS (by rw [hnB, Y.stackName]; decide)
  have bP := Cond.laysApart hdB hdP hdnB hdnP (by rw [hnB, Y.suppName]; decide)
  have hbk : ((preparedCellV T.toThrowableT (freshCell P1.m.cls kX) (W.heap.size + 2) u0 sen).withEntry W.cur).slots[fB.slot]? = some .null := by
    have := fresh_default (c := P1.m.cls) tyB
    rw [htB] at this
    simpa [preparedCellV, Cell.setSlot, Cell.withEntry, Array.getElem?_setIfInBounds, bC, bS, bP, bC.symm, bS.symm, bP.symm, defaultValue] using this
  have tkC := Takes.of_laid (v := .ref (W.heap.size + 2)) hk hord tyC (by rw [Y.causeType]; rfl)
  have tkS := Takes.of_laid (v := u0.v) hk hord tyS (by rw [Y.stackType]; exact fits_refV_array _ u0)
  have tkP := Takes.of_laid (v := sen.v) hk hord tyP (by rw [Y.suppType]; exact fits_refV_object _ sen)
  have tkM := Takes.of_laid (v := .ref (W.heap.size + 1)) hk hord tyM (by rw [Y.msgType]; rfl)
  have hskip : SkipFacts T e.platform s (fun u => u) u0 ((preparedCellV T.toThrowableT (freshCell P1.m.cls kX) (W.heap.size + 2) u0 sen).withEntry W.cur) := ⟨{ ci198 := ci198, i198 := i198, fBack := fB }, ⟨hk198, hg198, ha198, hsB⟩, hbk, fun _ _ => rfl⟩
  have h0 : At W g.method c below := by rw [hg]; exact X.here
  obtain ⟨hbeyond, hfreeW⟩ := X.vmMayThrow hsize (.throwNew cls (some text) none) (fun f hf => by cases hf) rfl hRlocals
  have hfr' : W.frames.length + Ps.length + 4 < (e.platform.stackLimits W.me).1 := by have := X.framesAbove hRframes; omega
  have hwd' : (stackUse (.java g :: W.frames.tail)).2 + 13 * Ps.length + 55 ≤ (e.platform.stackLimits W.me).2 := by have := X.stackAbove hsize (K := 13 * Ps.length + 55) (by omega); omega
  have hslots : W.slotsUsed + (stringBytes (stringToUtf16 text)).size + Zs.kS.instanceTypes.size + kX.instanceTypes.size ≤ e.platform.maxSlots := by
    have := X.slotsAbove hRslots
    rw [hn4, hn6]
    omega
  obtain ⟨vm', hW', st⟩ := Steps.vmThrowsMessageColdByV p (s₀ := s) (S := W) (g := g) h0 hexec T L Z LZ M LM X.warmed (t := W.cur) rfl Zs LZs P1 L1 Ps hL hlink1 hlink hsoe hoom hfound hk hinit hord hctor
    (Launch.admits_hotImplicitExceptions X.admits) hbeyond hfreeW htext hlimit hheap (X.cellsAbove hRcells) hslots (hfitv _) (hfitc _)
    (Nn := fun u => u) heapOnly_id (fun _ _ => rfl) (fun _ => rfl) (fun u x y => setCell_twice _ _ _ _) (fun _ => Nat.le_refl _) (cN := ((preparedCellV T.toThrowableT (freshCell P1.m.cls kX) (W.heap.size + 2) u0 sen).withEntry W.cur))
    hsel0 hcellS hknownS hvU tkS (fun _ hu => hu) (fun _ hu => hu) rfl rfl rfl (by simp [preparedCellV, Cell.setSlot, Cell.withEntry]) hskip (fun _ _ hA hW _ hroom _ hrest => L.nativeOff p htr hA hW hroom hrest) hselF hvSen tkC tkP tkM Y.objLocals rfl hfr' hwd'
  rw [plainBareV_eq T.toThrowableT (W.heap.size + 2) u0 sen (.ref (W.heap.size + 1)) W.cur rfl rfl] at st
  obtain ⟨-, -, w3, w4, -, -, -⟩ := withThrown_facts e.platform W Zs text P1.m.cls kX
  have X3 := ((X.pushed (bytesOf Zs.cB (stringToUtf16 text))).pushed (stringAt Zs.cS Zs.kS Zs.fv Zs.fc (stringToUtf16 text) W.heap.size)).pushed (freshCell P1.m.cls kX)
  rw [← withString_eq] at X3
  have X4 := X3.noted hW'
  have ha : (W.heap.size + 2) < ((withThrown W Zs text P1.m.cls kX).setVm vm').heap.size := by show _ < (withThrown W Zs text P1.m.cls kX).heap.size; rw [w3]; omega
  have hcell : ((withThrown W Zs text P1.m.cls kX).setVm vm').heap[(W.heap.size + 2)]? = some (freshCell P1.m.cls kX) := w4
  have X5 := ((((X4.stored hcell T.fCause.slot (.ref (W.heap.size + 2))).storedAgain ha T.fStack.slot u0.v).storedAgain ha T.fSupp.slot sen.v).storedAgain ha T.fStack.slot u0.v).storedAgain ha T.fMsg.slot (.ref (W.heap.size + 1))
  obtain ⟨g₁, hfrM⟩ := X5.frames_eq
  have hU : ((((withThrown W Zs text P1.m.cls kX).setVm vm').setCell (W.heap.size + 2) (plainBareV T.toThrowableT (freshCell P1.m.cls kX) (W.heap.size + 2) u0 sen (.ref (W.heap.size + 1)))).setTop g).pushFrame (.throwing (W.heap.size + 2)) = (((withThrown W Zs text P1.m.cls kX).setVm vm').setCell (W.heap.size + 2) (plainBareV T.toThrowableT (freshCell P1.m.cls kX) (W.heap.size + 2) u0 sen (.ref (W.heap.size + 1)))).setFrames (.throwing (W.heap.size + 2) :: .java g :: below) := by
    rw [State.pushFrame, State.frames_setTop _ hfrM, State.setTop_of_frames _ hfrM, State.setFrames_setFrames]
  have b1 : (bytesOf Zs.cB (stringToUtf16 text)).slots.size = (stringBytes (stringToUtf16 text)).size := by
    rw [(Cell.writeAll_facts _ _).2.2]; simp [bytes0]
  have b2 : (stringAt Zs.cS Zs.kS Zs.fv Zs.fc (stringToUtf16 text) W.heap.size).slots.size = 4 := by simp [string0, Cell.setSlot, hn4]
  have b3 : (freshCell P1.m.cls kX).slots.size = 6 := by simp [hn6]
  rw [b1, b2, b3] at X5
  have e9 : slots + (stringBytes (stringToUtf16 text)).size + 4 + 6 = slots + ((stringBytes (stringToUtf16 text)).size + 4 + 6) := by omega
  rw [e9] at X5
  simp only [List.append_assoc, List.cons_append, List.nil_append] at X5
  refine ⟨((withThrown W Zs text P1.m.cls kX).setVm vm').setCell (W.heap.size + 2) (plainBareV T.toThrowableT (freshCell P1.m.cls kX) (W.heap.size + 2) u0 sen (.ref (W.heap.size + 1))), W.heap.size + 2, _, fun target ht => st _ (by rw [X.tail, ← hU]; exact ht),
    X5.forget (fun y hy => ?_), heapAt_setCell_self _ ha, hfound, rfl⟩
  simp only [List.mem_cons, List.not_mem_nil, or_false] at hy
  have hge : s.heap.size ≤ W.heap.size := X.same.2.1
  rcases hy with rfl | rfl | rfl | rfl | rfl <;> exact Nat.le_trans hge (Nat.le_add_right _ 2)
set_option maxHeartbeats 1000000 in
/-- the machine throws NullPointerException, no traces kept: from its note over the frame g to 'throwing' over the same frame (follows the proof of Stand.vmThrowsNpe, Shelf42/KT2.lean; throwsNpeColdBareVAt, Shelf42/NT91.lean, called) -/
theorem vx_npeAt {p : Program} {l : Launch} {e : Env} {R : Room} {s : State} {m₀ : MethodId} {args : Array Value} {below : List Frame} {meth : Method} {c : Code} {W : State} {locs : List Loc} {cells slots : Nat}
    (X : Stand p l e R s m₀ args below meth c W locs cells slots) (hexec : p.tables.exec = Jvm.exec) (htr : e.platform.stackTraces = false) {n : Nat}
    (h : ∀ a ∈ Bundle.npeArmAtoms n, a.before args s = true)
    (hlocs : ∀ x ∈ locs, ∀ cell, s.heap[x.base]? = some cell → cell.vm.isStatics = false)
    {g : JFrame} (hg : g.method = m₀) (hsize : g.locals.size = c.maxLocals)
    (hRframes : 7 < R.frames) (hRlocals : 2 * g.monitorRoom + (g.stack.map fun v => v.category).sum + 10240 ≤ R.locals)
    (hRcells : cells + 1 ≤ R.cells) (hRslots : slots + n ≤ R.slots) (hlocks : meth.locks = false) :
    ∃ (S : State) (q : Addr) (ce : Cell), (∀ target, Steps p.tables e below ((S.setTop g).pushFrame (.throwing q)) target → Steps p.tables e below ((W.setTop g).pushFrame (.throwNew "java/lang/NullPointerException" none none)) target) ∧
      Stand p l e R s m₀ args below meth c S locs (cells + 1) (slots + n) ∧ S.heap[q]? = some ce ∧ s.vm.findClass "java/lang/NullPointerException" = some ce.cls ∧ ce.vm = .none := by
  have howns : e.platform.frameOwnsMonitors = true := by rw [X.admits.platform]
  have hfin : e.platform.finalization = false := by rw [X.admits.platform]
  have hpl : e.platform.magicAccessors = ({} : Platform).magicAccessors := by rw [X.admits.platform]
  have hpl2 : e.platform.arrayCloneIsPublic = true := by rw [X.admits.platform]
  have a' : ∀ x, x ∈ Bundle.npeArmAtoms n → x.holds args s none s [] = true := fun x hx => h x hx
  obtain ⟨T, Z, L, LZ, Y⟩ := ThrowableC.of_atoms (args := args) howns hfin hpl (fun x hx => h x (by simp [Bundle.npeArmAtoms, hx]))
  obtain ⟨N, LN, hcN, hnNF, hordN, hffS⟩ := NpeC.of_atoms (args := args) hpl hpl2 L Y (fun x hx => h x (by simp [Bundle.npeArmAtoms, hx]))
  obtain ⟨P1, L1, hP1m, hP1s⟩ := PassC.of_atoms (args := args) (s := s) hpl (X := Bundle.nN) (Y := Bundle.rN) (by decide) (by decide) LibCode.NullPointerException.Init0.at_0 LibCode.NullPointerException.Init0.at_1 LibCode.NullPointerException.Init0.at_4 (fun x hx => h x (by simp [Bundle.npeArmAtoms, hx]))
  obtain ⟨PR, LR, hPRm, hPRs⟩ := PassC.of_atoms (args := args) (s := s) hpl (X := Bundle.rN) (Y := Bundle.eN) (by decide) (by decide) LibCode.RuntimeException.Init0.at_0 LibCode.RuntimeException.Init0.at_1 LibCode.RuntimeException.Init0.at_4 (fun x hx => h x (by simp [Bundle.npeArmAtoms, hx]))
  obtain ⟨PE, LEx, hPEm, hPEs⟩ := PassC.of_atoms (args := args) (s := s) hpl (X := Bundle.eN) (Y := Bundle.tN) (by decide) (by decide) LibCode.Exception.Init0.at_0 LibCode.Exception.Init0.at_1 LibCode.Exception.Init0.at_4 (fun x hx => h x (by simp [Bundle.npeArmAtoms, hx]))
  have hfound : s.vm.findClass Bundle.nN = some P1.m.cls := findClass_of_methodNamed hP1m
  have ecls : N.cN = P1.m.cls := Option.some.inj (hcN.symm.trans hfound)
  have hk : s.vm.classes[P1.m.cls]? = some N.kN := by rw [← ecls]; exact LN.cls
  have hinit := Cond.initialized_spec hfound hk (a' (.initialized Bundle.nN) (by simp [Bundle.npeArmAtoms]))
  have hctor : N.kN.findMethod "<init>" "()V" = some P1.m.idx := findMethod_of_methodNamed hP1m hk
  obtain ⟨c1, k1, hc1, hk1, -, -, -, hn⟩ := Cond.instantiable_spec (a' (.instantiable Bundle.nN n) (by simp [Bundle.npeArmAtoms]))
  cases Option.some.inj (hc1.symm.trans hfound)
  cases Option.some.inj (hk1.symm.trans hk)
  have hfsz : (freshCell P1.m.cls N.kN).slots.size = n := by simp [hn]
  have hlink1 : P1.sup = PR.m := Option.some.inj (hP1s.symm.trans hPRm)
  have hlinkR : PR.sup = PE.m := Option.some.inj (hPRs.symm.trans hPEm)
  have hlinkE : PE.sup = Z.m T.toThrowableT := Option.some.inj (hPEs.symm.trans Y.init0)
  have hLs : ∀ P, P ∈ [PR, PE] → P.Links0 e.platform s := fun P hP => by
    simp only [List.mem_cons, List.not_mem_nil, or_false] at hP
    rcases hP with rfl | rfl
    · exact LR
    · exact LEx
  have hsel0 : selectMethod e.platform s.vm P1.m.cls T.fill0 = .method T.fill0 := by
    obtain ⟨c2, r2, m2, q1, q2, q3, q4, -⟩ := Cond.selects_spec (a' (.selects Bundle.nN Bundle.tFill0 Bundle.tFill0) (by simp [Bundle.npeArmAtoms]))
    cases Option.some.inj (q1.symm.trans hfound)
    cases Option.some.inj (q2.symm.trans (State.methodFound?_of_named Y.fill0 (by decide)))
    cases Option.some.inj (q3.symm.trans Y.fill0)
    rw [Launch.admits_selectMethod X.admits]; exact q4
  have hselF : selectMethod e.platform s.vm P1.m.cls T.fill = .method N.fill := by
    obtain ⟨c2, r2, m2, q1, q2, q3, q4, -⟩ := Cond.selects_spec (a' (.selects Bundle.nN Bundle.tFill Bundle.nFill) (by simp [Bundle.npeArmAtoms]))
    cases Option.some.inj (q1.symm.trans hfound)
    cases Option.some.inj (q2.symm.trans (State.methodFound?_of_named Y.fill (by decide)))
    cases Option.some.inj (q3.symm.trans hnNF)
    rw [Launch.admits_selectMethod X.admits]; exact q4
  obtain ⟨cellS0, hcS0, hiss⟩ := Y.statics
  obtain ⟨u0, hu0⟩ := Cond.staticRefV Y.unassigned L.unassignedStatic L.statics hcS0 hiss (a' (.isRef (.static Bundle.tN "UNASSIGNED_STACK" Bundle.steD)) (by simp [Bundle.npeArmAtoms]))
  obtain ⟨sen, hsen⟩ := Cond.staticRefV Y.sentinel L.sentinelStatic L.statics hcS0 hiss (a' (.isRef (.static Bundle.tN "SUPPRESSED_SENTINEL" Bundle.listD)) (by simp [Bundle.npeArmAtoms]))
  obtain ⟨ci198, i198, fB, hk198, hg198, ha198, hsB, -, hnB, htB, hffB⟩ := Cond.ownField (t := .object "java/lang/Object") Y.found L.cls (by decide +kernel) (a' (.fieldLink Bundle.tN 198 Bundle.tN "backtrace" Bundle.objD) (by simp [Bundle.npeArmAtoms])) (a' (.lays Bundle.tN Bundle.tN "backtrace" Bundle.objD) (by simp [Bundle.npeArmAtoms])) e.platform hpl
  obtain ⟨cellS, hcS', heS, -, hkeep⟩ := X.same.2.2.2.2.2 T.aS cellS0 hcS0
  have hcellS : W.heap[T.aS]? = some cellS := hcS'
  have hout' : ∀ i, (⟨T.aS, i⟩ : Loc) ∉ locs := fun i hmem => by
    have := hlocs _ hmem cellS0 hcS0
    rw [hiss] at this; cases this
  have hknownS : cellS.vm ≠ .unknown := by
    rw [heS]; intro hu
    rw [show cellS0.vm = .unknown from hu] at hiss
    cases hiss
  have hvU : cellS.slots[T.fUnassigned.slot]? = some u0.v := by rw [hkeep _ (hout' _)]; exact hu0
  have hvSen : cellS.slots[T.fSentinel.slot]? = some sen.v := by rw [hkeep _ (hout' _)]; exact hsen
  obtain ⟨tyC, dC, hdC, hdnC⟩ := Cond.laysAt hfound hk Y.cause (a' (.lays Bundle.nN Bundle.tN "cause" "Ljava/lang/Throwable;") (by simp [Bundle.npeArmAtoms]))
  obtain ⟨tyS, dS, hdS, hdnS⟩ := Cond.laysAt hfound hk Y.stack (a' (.lays Bundle.nN Bundle.tN "stackTrace" Bundle.steD) (by simp [Bundle.npeArmAtoms]))
  obtain ⟨tyP, dP, hdP, hdnP⟩ := Cond.laysAt hfound hk Y.supp (a' (.lays Bundle.nN Bundle.tN "suppressedExceptions" Bundle.listD) (by simp [Bundle.npeArmAtoms]))
  obtain ⟨tyX, dX, hdX, hdnX⟩ := Cond.laysAt hfound hk hffS (a' (.lays Bundle.nN Bundle.nN "extendedMessageState" "I") (by simp [Bundle.npeArmAtoms, Bundle.npeAtoms]))
  obtain ⟨hnX, htX⟩ := State.fieldFound?_type hffS (t := .int) (by decide +kernel)
  have xC := Cond.laysApart hdC hdX hdnC hdnX (by rw [hnX, Y.causeName]; decide)
  have xS := Cond.laysApart hdS hdX hdnS hdnX (by rw [hnX, Y.stackName]; decide)
  have xP := Cond.laysApart hdP hdX hdnP hdnX (by rw [hnX, Y.suppName]; decide)
  have hv0 : (freshCell P1.m.cls N.kN).slots[N.fState.slot]? = some (.int 0) := by
    have := fresh_default (c := P1.m.cls) tyX
    rw [htX] at this; exact this
  obtain ⟨tyB, dB, hdB, hdnB⟩ := Cond.laysAt hfound hk hffB (a' (.lays Bundle.nN Bundle.tN "backtrace" Bundle.objD) (by simp [Bundle.npeArmAtoms]))
  have bC := Cond.laysApart hdB hdC hdnB hdnC (by rw [hnB, Y.causeName]; decide)
  have bS := Cond.laysApart hdB hdS hdnB hdnS (by rw [hnB, Y.stackName]; decide)
  have bP := Cond.laysApart hdB hdP hdnB hdnP (by rw [hnB, Y.suppName]; decide)
  have bX := Cond.laysApart hdB hdX hdnB hdnX (by rw [hnB, hnX]; decide)
  have hbk : ((npeCell N.toNpeT (preparedCellV T.toThrowableT (freshCell P1.m.cls N.kN) W.heap.size u0 sen) W.cur).withEntry W.cur).slots[fB.slot]? = some .null := by
    have := fresh_default (c := P1.m.cls) tyB
    rw [htB] at this
    simpa [npeCell, preparedCellV, Cell.setSlot, Cell.withEntry, Array.getElem?_setIfInBounds, bC, bS, bP, bX, bC.symm, bS.symm, bP.symm, bX.symm, defaultValue] using this
  have tkC := Takes.of_laid (v := .ref W.heap.size) hk hordN tyC (by rw [Y.causeType]; rfl)
  have tkS := Takes.of_laid (v := u0.v) hk hordN tyS (by rw [Y.stackType]; exact fits_refV_array _ u0)
  have tkP := Takes.of_laid (v := sen.v) hk hordN tyP (by rw [Y.suppType]; exact fits_refV_object _ sen)
  have tkX := Takes.of_laid (v := .int 1) hk hordN tyX (by rw [htX]; rfl)
  have hskip : SkipFacts T e.platform s (fun u => u) u0 ((npeCell N.toNpeT (preparedCellV T.toThrowableT (freshCell P1.m.cls N.kN) W.heap.size u0 sen) W.cur).withEntry W.cur) := ⟨{ ci198 := ci198, i198 := i198, fBack := fB }, ⟨hk198, hg198, ha198, hsB⟩, hbk, fun _ _ => rfl⟩
  obtain ⟨vm', X3, st, -⟩ := X.throwsNpeColdBareVAt hexec hg hsize T L Z LZ N LN P1 L1 [PR, PE] hLs hlink1 ⟨hlinkR, hlinkE, trivial⟩ hfound hk hinit hordN hctor hsel0 hselF hcellS hknownS hvU hvSen
    hv0 xC xS xP tkC tkS tkP tkX Y.objLocals hskip (fun _ _ hA hW _ hroom _ hrest => L.nativeOff p htr hA hW hroom hrest) (by simpa using hRframes) hRlocals (by simp) hRcells (by rw [hn]; exact hRslots)
  have hlt : W.heap.size < ((W.pushCell (freshCell P1.m.cls N.kN)).setVm vm').heap.size := by
    show W.heap.size < (W.pushCell (freshCell P1.m.cls N.kN)).heap.size
    rw [State.heap_size_pushCell]; omega
  rw [hfsz] at X3
  obtain ⟨g₁, hfrM⟩ := X3.frames_eq
  have hU : ((((W.pushCell (freshCell P1.m.cls N.kN)).setVm vm').setCell W.heap.size (npeBareV T.toThrowableT N.toNpeT (freshCell P1.m.cls N.kN) W.heap.size u0 sen)).setTop g).pushFrame (.throwing W.heap.size) = (((W.pushCell (freshCell P1.m.cls N.kN)).setVm vm').setCell W.heap.size (npeBareV T.toThrowableT N.toNpeT (freshCell P1.m.cls N.kN) W.heap.size u0 sen)).setFrames (.throwing W.heap.size :: .java g :: below) := by
    rw [State.pushFrame, State.frames_setTop _ hfrM, State.setTop_of_frames _ hfrM, State.setFrames_setFrames]
  refine ⟨_, W.heap.size, _, fun target ht => st.trans (by rw [← hU]; exact ht), X3.forget (fun y hy => ?_), heapAt_setCell_self _ hlt, hfound, rfl⟩
  simp only [List.mem_cons, List.not_mem_nil, or_false] at hy
  have hge : s.heap.size ≤ W.heap.size := X.same.2.1
  rcases hy with rfl | rfl | rfl | rfl | rfl <;> exact hge
/-- the words of a machine's NullPointerException, but the four that speak of the heap -/
def vx_atN (n : Nat) : List Cond := (Bundle.npeArmAtoms n).filter vx_no
/-- the words of a machine's throw with a message, but the four that speak of the heap -/
def vx_atM (X : String) (names : List String) : List Cond := (Bundle.messageArmAtoms X names).filter vx_no
section
variable {p : Program} {l : Launch} {e : Env} {R : Room} {s : State} {m : MethodId} {args : Array Value} {below : List Frame} {meth : Method} {c : Code} {H : Heap} {locs : List Loc} {cells slots : Nat}
/-- a frame seen from a rebased start, seen from the first start again -/
theorem vx_back9 {T S : State} {R' : Room} {k n : Nat} (X : Stand p l e R s m args below meth c T locs cells slots) (Y : Stand p l e R' ((T.setVm s.vm).setFrames (.invoking m args :: below)) m args below meth c T [] 0 0) (Z : Stand p l e R' ((T.setVm s.vm).setFrames (.invoking m args :: below)) m args below meth c S [] k n) :
    Stand p l e R s m args below meth c S locs (cells + k) (slots + n) := by
  have hW0 : s.WarmedH ((T.setVm s.vm).setFrames (.invoking m args :: below)).vm := State.WarmedH.refl s
  refine { admits := X.admits, cas := X.cas, clock := X.clock, frames := X.frames, room := X.room, hears := X.hears, method := X.method, code := X.code, here := Z.here, tail := Z.tail, warmed := State.WarmedH.trans hW0 Z.warmed, limits := Z.limits.trans (Y.limits.symm.trans X.limits), bytes := Z.bytes.trans (Y.bytes.symm.trans X.bytes), same := ?_ }
  obtain ⟨e1, e2⟩ := Z.same
  rw [State.setFrames_setFrames] at e1
  have h2 : (T.setVm s.vm).sameButNew (S.setVm s.vm) [] k n := ⟨e1, e2⟩
  have h3 := X.same.trans h2
  rw [List.append_nil] at h3
  exact h3
/-- from the machine's note that E is thrown here with this text -/
def vx_Note (p : Program) (l : Launch) (e : Env) (R : Room) (s : State) (m : MethodId) (args : Array Value) (below : List Frame) (meth : Method) (c : Code) (H : Heap) (locs : List Loc) (cells slots : Nat) (Q : State → Prop) (g : JFrame) (E text : String) : Prop :=
  ∀ T : State, T.heap = H → Stand p l e R s m args below meth c T locs cells slots → ∃ t, Steps p.tables e below ((T.setTop g).pushFrame (.throwNew E (some text) none)) t ∧ Q t
theorem vx_vm {pc : Nat} {ls : Array Slot} {rest : List Value} {Q : State → Prop} (hexec : p.tables.exec = Jvm.exec) (hl : l.stackTraces = false) {cls text : String} {names : List String} {nb : Nat} {A : Nat → Prop}
    (hcls : Bundle.fit cls = true) (hnames : ∀ n ∈ names, Bundle.fit n = true) (hsoe : (cls == "java/lang/StackOverflowError") = false) (hoom : (cls == "java/lang/OutOfMemoryError") = false)
    (hat : ∀ w ∈ vx_atM cls names, w.before args s = true) (hgood : ∀ w ∈ vx_atM cls names, vx_ot w = true)
    (hU : vx_Zq Bundle.tN "UNASSIGNED_STACK" Bundle.steD A s s.heap) (hN : vx_Zq Bundle.tN "SUPPRESSED_SENTINEL" Bundle.listD A s s.heap) (hS : va_S A s.heap H locs) (hsize : ls.size = c.maxLocals)
    (htext : (text == notModelled) = false) (hnb : (stringBytes (stringToUtf16 text)).size ≤ nb) (hnb1 : nb ≤ 1000)
    (hRframes : names.length + 4 < R.frames) (hRlocals : (rest.map fun v => v.category).sum + 10240 ≤ R.locals) (hshort : 13 * names.length + 55 ≤ 10240) (hRcells : cells + 3 ≤ R.cells) (hRslots : slots + (nb + 10) ≤ R.slots) (hlocks : meth.locks = false)
    (k : ∀ (H1 : Heap) (q9 : Addr) (ce : Cell), H.size ≤ H1.size → (∀ q : Nat, q < H.size → H1[q]? = H[q]?) → va_S A s.heap H1 locs → H1[q9]? = some ce → ce.vm = .none → s.vm.findClass cls = some ce.cls → vx_W p l e R s m args below meth c H1 locs (cells + 3) (slots + (nb + 10)) Q (F0 m pc ls rest) q9) :
    vx_Note p l e R s m args below meth c H locs cells slots Q (F0 m pc ls rest) cls text := by
  intro T hT X
  have htr : e.platform.stackTraces = false := (show e.platform.stackTraces = l.stackTraces by rw [X.admits.platform]).trans hl
  have Y := vx_rebase X (R' := { frames := R.frames, locals := R.locals, cells := 3, slots := nb + 10 }) (Nat.le_refl _) (Nat.le_refl _) hRcells hRslots
  have hhp : ((T.setVm s.vm).setFrames (.invoking m args :: below)).heap = H := hT
  have hW0 : s.WarmedH ((T.setVm s.vm).setFrames (.invoking m args :: below)).vm := State.WarmedH.refl s
  have hat' : ∀ w ∈ vx_atM cls names, w.before args ((T.setVm s.vm).setFrames (.invoking m args :: below)) = true := fun w hw => vx_ot_at hW0 rfl (hgood w hw) (hat w hw)
  have hU' : vx_Zq Bundle.tN "UNASSIGNED_STACK" Bundle.steD A ((T.setVm s.vm).setFrames (.invoking m args :: below)) ((T.setVm s.vm).setFrames (.invoking m args :: below)).heap := by rw [hhp]; exact vx_Zq.moved hW0.alike (hU.kept hS.2.1)
  have hN' : vx_Zq Bundle.tN "SUPPRESSED_SENTINEL" Bundle.listD A ((T.setVm s.vm).setFrames (.invoking m args :: below)) ((T.setVm s.vm).setFrames (.invoking m args :: below)).heap := by rw [hhp]; exact vx_Zq.moved hW0.alike (hN.kept hS.2.1)
  obtain ⟨S, q, ce, st, Z, hce, hcl', hv⟩ := vx_vmAt Y hexec htr (cls := cls) (names := names) (text := text) hcls hnames hsoe hoom (vx_own hat' (vx_isRefq hU'.1) (vx_isRefq hN'.1) hU'.2.word hN'.2.word) (fun x hx => nomatch hx) htext
    (by rw [Launch.admits_arrayLengthLimit X.admits]; omega) (by rw [Launch.admits_maxHeapBytes X.admits]; simp only [componentBytes]; omega)
    (g := F0 m pc ls rest) rfl hsize hRframes (by show 2 * 0 + (rest.map fun v => v.category).sum + 10240 ≤ R.locals; omega) hshort (by show 0 + 3 ≤ 3; omega) (by show 0 + (_ + 4 + 6) ≤ nb + 10; omega) hlocks
  obtain ⟨f1, f2⟩ := vx_frame Z.same
  have f1' : H.size ≤ S.heap.size := by rw [← hT]; exact f1
  have f2' : ∀ q : Nat, q < H.size → S.heap[q]? = H[q]? := fun q hq => by
    rw [← hT]
    exact f2 q (by rw [← hT] at hq; exact hq) (fun z hz => nomatch hz)
  have X5 := vx_back9 X Y Z
  have X6 : Stand p l e R s m args below meth c S locs (cells + 3) (slots + (nb + 10)) := { X5 with same := X5.same.mono (by omega) (by omega) }
  obtain ⟨t, a1, b1⟩ := k S.heap q ce f1' f2' ⟨Nat.le_trans hS.1 f1', fun q h1 h2 => (f2' q (Nat.lt_of_lt_of_le h1 hS.1)).trans (hS.2.1 q h1 h2), hS.2.2⟩ hce hv hcl' S rfl X6
  exact ⟨t, st t a1, b1⟩
/-- from the machine's note that NullPointerException is thrown here -/
def vx_NoteN (p : Program) (l : Launch) (e : Env) (R : Room) (s : State) (m : MethodId) (args : Array Value) (below : List Frame) (meth : Method) (c : Code) (H : Heap) (locs : List Loc) (cells slots : Nat) (Q : State → Prop) (g : JFrame) : Prop :=
  ∀ T : State, T.heap = H → Stand p l e R s m args below meth c T locs cells slots → ∃ t, Steps p.tables e below ((T.setTop g).pushFrame (.throwNew "java/lang/NullPointerException" none none)) t ∧ Q t
theorem vx_npe {pc : Nat} {ls : Array Slot} {rest : List Value} {Q : State → Prop} (hexec : p.tables.exec = Jvm.exec) (hl : l.stackTraces = false) {nb : Nat} {A : Nat → Prop}
    (hat : ∀ w ∈ vx_atN nb, w.before args s = true) (hgood : ∀ w ∈ vx_atN nb, vx_ot w = true)
    (hU : vx_Zq Bundle.tN "UNASSIGNED_STACK" Bundle.steD A s s.heap) (hN : vx_Zq Bundle.tN "SUPPRESSED_SENTINEL" Bundle.listD A s s.heap) (hS : va_S A s.heap H locs) (hsize : ls.size = c.maxLocals)
    (hRframes : 7 < R.frames) (hRlocals : (rest.map fun v => v.category).sum + 10240 ≤ R.locals) (hRcells : cells + 1 ≤ R.cells) (hRslots : slots + nb ≤ R.slots) (hlocks : meth.locks = false)
    (k : ∀ (H1 : Heap) (q9 : Addr) (ce : Cell), H.size ≤ H1.size → (∀ q : Nat, q < H.size → H1[q]? = H[q]?) → va_S A s.heap H1 locs → H1[q9]? = some ce → ce.vm = .none → s.vm.findClass "java/lang/NullPointerException" = some ce.cls → vx_W p l e R s m args below meth c H1 locs (cells + 1) (slots + nb) Q (F0 m pc ls rest) q9) :
    vx_NoteN p l e R s m args below meth c H locs cells slots Q (F0 m pc ls rest) := by
  intro T hT X
  have htr : e.platform.stackTraces = false := (show e.platform.stackTraces = l.stackTraces by rw [X.admits.platform]).trans hl
  have Y := vx_rebase X (R' := { frames := R.frames, locals := R.locals, cells := 1, slots := nb }) (Nat.le_refl _) (Nat.le_refl _) hRcells hRslots
  have hhp : ((T.setVm s.vm).setFrames (.invoking m args :: below)).heap = H := hT
  have hW0 : s.WarmedH ((T.setVm s.vm).setFrames (.invoking m args :: below)).vm := State.WarmedH.refl s
  have hat' : ∀ w ∈ vx_atN nb, w.before args ((T.setVm s.vm).setFrames (.invoking m args :: below)) = true := fun w hw => vx_ot_at hW0 rfl (hgood w hw) (hat w hw)
  have hU' : vx_Zq Bundle.tN "UNASSIGNED_STACK" Bundle.steD A ((T.setVm s.vm).setFrames (.invoking m args :: below)) ((T.setVm s.vm).setFrames (.invoking m args :: below)).heap := by rw [hhp]; exact vx_Zq.moved hW0.alike (hU.kept hS.2.1)
  have hN' : vx_Zq Bundle.tN "SUPPRESSED_SENTINEL" Bundle.listD A ((T.setVm s.vm).setFrames (.invoking m args :: below)) ((T.setVm s.vm).setFrames (.invoking m args :: below)).heap := by rw [hhp]; exact vx_Zq.moved hW0.alike (hN.kept hS.2.1)
  obtain ⟨S, q, ce, st, Z, hce, hcl', hv⟩ := vx_npeAt Y hexec htr (n := nb) (vx_own hat' (vx_isRefq hU'.1) (vx_isRefq hN'.1) hU'.2.word hN'.2.word) (fun x hx => nomatch hx)
    (g := F0 m pc ls rest) rfl hsize hRframes (by show 2 * 0 + (rest.map fun v => v.category).sum + 10240 ≤ R.locals; omega) (by show 0 + 1 ≤ 1; omega) (by show 0 + nb ≤ nb; omega) hlocks
  obtain ⟨f1, f2⟩ := vx_frame Z.same
  have f1' : H.size ≤ S.heap.size := by rw [← hT]; exact f1
  have f2' : ∀ q : Nat, q < H.size → S.heap[q]? = H[q]? := fun q hq => by
    rw [← hT]
    exact f2 q (by rw [← hT] at hq; exact hq) (fun z hz => nomatch hz)
  have X5 := vx_back9 X Y Z
  have X6 : Stand p l e R s m args below meth c S locs (cells + 1) (slots + nb) := { X5 with same := X5.same.mono (by omega) (by omega) }
  obtain ⟨t, a1, b1⟩ := k S.heap q ce f1' f2' ⟨Nat.le_trans hS.1 f1', fun q h1 h2 => (f2' q (Nat.lt_of_lt_of_le h1 hS.1)).trans (hS.2.1 q h1 h2), hS.2.2⟩ hce hv hcl' S rfl X6
  exact ⟨t, st t a1, b1⟩
variable {Q : State → Prop} {cc : ByteArray} {pc : Nat} {ls : Array Slot} {rest : List Value}
theorem vx_idivZ (hexec : p.tables.exec = Jvm.exec) (hb : c.code = cc) {a b : Int32} (h0 : b = 0) (d : decode cc pc = .ok (.idiv, 1)) (k : vx_Note p l e R s m args below meth c H locs cells slots Q (F0 m pc ls rest) "java/lang/ArithmeticException" "/ by zero") :
    W p l e R s m args below meth c H locs cells slots Q (F0 m pc ls (.int b :: .int a :: rest)) := by
  intro T hT X
  obtain ⟨t, st, q⟩ := k T hT X
  exact ⟨t, X.idivZero hexec (g := F0 m pc ls (.int b :: .int a :: rest)) rfl (a := a) (rest := rest) (by rw [h0]) (by rw [hb]; exact d) t st, q⟩
theorem vx_iremZ (hexec : p.tables.exec = Jvm.exec) (hb : c.code = cc) {a b : Int32} (h0 : b = 0) (d : decode cc pc = .ok (.irem, 1)) (k : vx_Note p l e R s m args below meth c H locs cells slots Q (F0 m pc ls rest) "java/lang/ArithmeticException" "/ by zero") :
    W p l e R s m args below meth c H locs cells slots Q (F0 m pc ls (.int b :: .int a :: rest)) := by
  intro T hT X
  obtain ⟨t, st, q⟩ := k T hT X
  exact ⟨t, X.iremZero hexec (g := F0 m pc ls (.int b :: .int a :: rest)) rfl (a := a) (rest := rest) (by rw [h0]) (by rw [hb]; exact d) t st, q⟩
theorem vx_ldivZ (hexec : p.tables.exec = Jvm.exec) (hb : c.code = cc) {a b : Int64} (h0 : b = 0) (d : decode cc pc = .ok (.ldiv, 1)) (k : vx_Note p l e R s m args below meth c H locs cells slots Q (F0 m pc ls rest) "java/lang/ArithmeticException" "/ by zero") :
    W p l e R s m args below meth c H locs cells slots Q (F0 m pc ls (.long b :: .long a :: rest)) := by
  intro T hT X
  obtain ⟨t, st, q⟩ := k T hT X
  exact ⟨t, X.ldivZero hexec (g := F0 m pc ls (.long b :: .long a :: rest)) rfl (a := a) (rest := rest) (by rw [h0]) (by rw [hb]; exact d) t st, q⟩
theorem vx_lremZ (hexec : p.tables.exec = Jvm.exec) (hb : c.code = cc) {a b : Int64} (h0 : b = 0) (d : decode cc pc = .ok (.lrem, 1)) (k : vx_Note p l e R s m args below meth c H locs cells slots Q (F0 m pc ls rest) "java/lang/ArithmeticException" "/ by zero") :
    W p l e R s m args below meth c H locs cells slots Q (F0 m pc ls (.long b :: .long a :: rest)) := by
  intro T hT X
  obtain ⟨t, st, q⟩ := k T hT X
  exact ⟨t, X.lremZero hexec (g := F0 m pc ls (.long b :: .long a :: rest)) rfl (a := a) (rest := rest) (by rw [h0]) (by rw [hb]; exact d) t st, q⟩
theorem vx_ialdZ {D : va_G} {cl : List vw_C} {ws : va_W} {tys : List (ClassId × FieldType)} {a : Nat} (hexec : p.tables.exec = Jvm.exec) (hb : c.code = cc) (hK : va_K D cl tys s) (hP : va_P D cl ws H) (q0 t0 : Nat) {cA : ClassId} {n : Nat} {f : Nat → Int32} (ha : ws[q0]? = some (a, .inl (cA, n, .inl f))) (ht : tys[t0]? = some (cA, .int)) {i : Int32} (hout : ¬ vp_in i n) (hdg : decode cc pc = .ok (.iaload, 1))
    (k : ∀ tx : String, tx = (toString "Index " ++ toString i ++ toString " out of bounds for length " ++ toString n : String) → vx_Note p l e R s m args below meth c H locs cells slots Q (F0 m pc ls rest) "java/lang/ArrayIndexOutOfBoundsException" tx) : W p l e R s m args below meth c H locs cells slots Q (F0 m pc ls (.int i :: .ref a :: rest)) := by
  intro T hT X
  obtain ⟨t, st, q⟩ := k _ rfl T hT X
  refine ⟨t, ?_, q⟩
  have h1 := X.ialoadOut hexec (by rw [hT]; exact hP q0 _ ha) ((hK.2 t0 _ ht).1 n (fun j => .int (f j))) (j := i) (by show (i < 0 ∨ (arrV _ _ _).slots.size ≤ _); rw [arrV_size]; exact Classical.byContradiction hout) (g := F0 m pc ls (.int i :: .ref a :: rest)) rfl (rest := rest) rfl (by rw [hb]; exact hdg) t
  simp only [arrV_size] at h1
  exact h1 st
theorem vx_iastZ {D : va_G} {cl : List vw_C} {ws : va_W} {tys : List (ClassId × FieldType)} {a : Nat} (hexec : p.tables.exec = Jvm.exec) (hb : c.code = cc) (hK : va_K D cl tys s) (hP : va_P D cl ws H) (q0 t0 : Nat) {cA : ClassId} {n : Nat} {f : Nat → Int32} (ha : ws[q0]? = some (a, .inl (cA, n, .inl f))) (ht : tys[t0]? = some (cA, .int)) {i : Int32} {x : Int32} (hout : ¬ vp_in i n) (hdg : decode cc pc = .ok (.iastore, 1))
    (k : ∀ tx : String, tx = (toString "Index " ++ toString i ++ toString " out of bounds for length " ++ toString n : String) → vx_Note p l e R s m args below meth c H locs cells slots Q (F0 m pc ls rest) "java/lang/ArrayIndexOutOfBoundsException" tx) : W p l e R s m args below meth c H locs cells slots Q (F0 m pc ls (.int x :: .int i :: .ref a :: rest)) := by
  intro T hT X
  obtain ⟨t, st, q⟩ := k _ rfl T hT X
  refine ⟨t, ?_, q⟩
  have h1 := X.iastoreOut hexec (by rw [hT]; exact hP q0 _ ha) ((hK.2 t0 _ ht).1 n (fun j => .int (f j))) (j := i) (by show (i < 0 ∨ (arrV _ _ _).slots.size ≤ _); rw [arrV_size]; exact Classical.byContradiction hout) (g := F0 m pc ls (.int x :: .int i :: .ref a :: rest)) rfl (rest := rest) rfl (by rw [hb]; exact hdg) t
  simp only [arrV_size] at h1
  exact h1 st
theorem vx_baldZ {D : va_G} {cl : List vw_C} {ws : va_W} {tys : List (ClassId × FieldType)} {a : Nat} (hexec : p.tables.exec = Jvm.exec) (hb : c.code = cc) (hK : va_K D cl tys s) (hP : va_P D cl ws H) (q0 t0 : Nat) {cA : ClassId} {n : Nat} {f : Nat → Int32} (ha : ws[q0]? = some (a, .inl (cA, n, .inl f))) (ht : tys[t0]? = some (cA, .byte)) {i : Int32} (hout : ¬ vp_in i n) (hdg : decode cc pc = .ok (.baload, 1))
    (k : ∀ tx : String, tx = (toString "Index " ++ toString i ++ toString " out of bounds for length " ++ toString n : String) → vx_Note p l e R s m args below meth c H locs cells slots Q (F0 m pc ls rest) "java/lang/ArrayIndexOutOfBoundsException" tx) : W p l e R s m args below meth c H locs cells slots Q (F0 m pc ls (.int i :: .ref a :: rest)) := by
  intro T hT X
  obtain ⟨t, st, q⟩ := k _ rfl T hT X
  refine ⟨t, ?_, q⟩
  have h1 := X.baloadOut hexec (by rw [hT]; exact hP q0 _ ha) ((hK.2 t0 _ ht).1 n (fun j => .int (f j))) (j := i) (by show (i < 0 ∨ (arrV _ _ _).slots.size ≤ _); rw [arrV_size]; exact Classical.byContradiction hout) (g := F0 m pc ls (.int i :: .ref a :: rest)) rfl (rest := rest) rfl (by rw [hb]; exact hdg) t
  simp only [arrV_size] at h1
  exact h1 st
theorem vx_bastZ {D : va_G} {cl : List vw_C} {ws : va_W} {tys : List (ClassId × FieldType)} {a : Nat} (hexec : p.tables.exec = Jvm.exec) (hb : c.code = cc) (hK : va_K D cl tys s) (hP : va_P D cl ws H) (q0 t0 : Nat) {cA : ClassId} {n : Nat} {f : Nat → Int32} (ha : ws[q0]? = some (a, .inl (cA, n, .inl f))) (ht : tys[t0]? = some (cA, .byte)) {i : Int32} {x : Int32} (hout : ¬ vp_in i n) (hdg : decode cc pc = .ok (.bastore, 1))
    (k : ∀ tx : String, tx = (toString "Index " ++ toString i ++ toString " out of bounds for length " ++ toString n : String) → vx_Note p l e R s m args below meth c H locs cells slots Q (F0 m pc ls rest) "java/lang/ArrayIndexOutOfBoundsException" tx) : W p l e R s m args below meth c H locs cells slots Q (F0 m pc ls (.int x :: .int i :: .ref a :: rest)) := by
  intro T hT X
  obtain ⟨t, st, q⟩ := k _ rfl T hT X
  refine ⟨t, ?_, q⟩
  have h1 := X.bastoreOut hexec (by rw [hT]; exact hP q0 _ ha) ((hK.2 t0 _ ht).1 n (fun j => .int (f j))) (j := i) (by show (i < 0 ∨ (arrV _ _ _).slots.size ≤ _); rw [arrV_size]; exact Classical.byContradiction hout) (g := F0 m pc ls (.int x :: .int i :: .ref a :: rest)) rfl (rest := rest) rfl (by rw [hb]; exact hdg) t
  simp only [arrV_size] at h1
  exact h1 st
theorem vx_zaldZ {D : va_G} {cl : List vw_C} {ws : va_W} {tys : List (ClassId × FieldType)} {a : Nat} (hexec : p.tables.exec = Jvm.exec) (hb : c.code = cc) (hK : va_K D cl tys s) (hP : va_P D cl ws H) (q0 t0 : Nat) {cA : ClassId} {n : Nat} {f : Nat → Int32} (ha : ws[q0]? = some (a, .inl (cA, n, .inl f))) (ht : tys[t0]? = some (cA, .boolean)) {i : Int32} (hout : ¬ vp_in i n) (hdg : decode cc pc = .ok (.baload, 1))
    (k : ∀ tx : String, tx = (toString "Index " ++ toString i ++ toString " out of bounds for length " ++ toString n : String) → vx_Note p l e R s m args below meth c H locs cells slots Q (F0 m pc ls rest) "java/lang/ArrayIndexOutOfBoundsException" tx) : W p l e R s m args below meth c H locs cells slots Q (F0 m pc ls (.int i :: .ref a :: rest)) := by
  intro T hT X
  obtain ⟨t, st, q⟩ := k _ rfl T hT X
  refine ⟨t, ?_, q⟩
  have h1 := X.baloadOut hexec (by rw [hT]; exact hP q0 _ ha) ((hK.2 t0 _ ht).1 n (fun j => .int (f j))) (j := i) (by show (i < 0 ∨ (arrV _ _ _).slots.size ≤ _); rw [arrV_size]; exact Classical.byContradiction hout) (g := F0 m pc ls (.int i :: .ref a :: rest)) rfl (rest := rest) rfl (by rw [hb]; exact hdg) t
  simp only [arrV_size] at h1
  exact h1 st
theorem vx_zastZ {D : va_G} {cl : List vw_C} {ws : va_W} {tys : List (ClassId × FieldType)} {a : Nat} (hexec : p.tables.exec = Jvm.exec) (hb : c.code = cc) (hK : va_K D cl tys s) (hP : va_P D cl ws H) (q0 t0 : Nat) {cA : ClassId} {n : Nat} {f : Nat → Int32} (ha : ws[q0]? = some (a, .inl (cA, n, .inl f))) (ht : tys[t0]? = some (cA, .boolean)) {i : Int32} {x : Int32} (hout : ¬ vp_in i n) (hdg : decode cc pc = .ok (.bastore, 1))
    (k : ∀ tx : String, tx = (toString "Index " ++ toString i ++ toString " out of bounds for length " ++ toString n : String) → vx_Note p l e R s m args below meth c H locs cells slots Q (F0 m pc ls rest) "java/lang/ArrayIndexOutOfBoundsException" tx) : W p l e R s m args below meth c H locs cells slots Q (F0 m pc ls (.int x :: .int i :: .ref a :: rest)) := by
  intro T hT X
  obtain ⟨t, st, q⟩ := k _ rfl T hT X
  refine ⟨t, ?_, q⟩
  have h1 := X.bastoreOut hexec (by rw [hT]; exact hP q0 _ ha) ((hK.2 t0 _ ht).1 n (fun j => .int (f j))) (j := i) (by show (i < 0 ∨ (arrV _ _ _).slots.size ≤ _); rw [arrV_size]; exact Classical.byContradiction hout) (g := F0 m pc ls (.int x :: .int i :: .ref a :: rest)) rfl (rest := rest) rfl (by rw [hb]; exact hdg) t
  simp only [arrV_size] at h1
  exact h1 st
theorem vx_caldZ {D : va_G} {cl : List vw_C} {ws : va_W} {tys : List (ClassId × FieldType)} {a : Nat} (hexec : p.tables.exec = Jvm.exec) (hb : c.code = cc) (hK : va_K D cl tys s) (hP : va_P D cl ws H) (q0 t0 : Nat) {cA : ClassId} {n : Nat} {f : Nat → Int32} (ha : ws[q0]? = some (a, .inl (cA, n, .inl f))) (ht : tys[t0]? = some (cA, .char)) {i : Int32} (hout : ¬ vp_in i n) (hdg : decode cc pc = .ok (.caload, 1))
    (k : ∀ tx : String, tx = (toString "Index " ++ toString i ++ toString " out of bounds for length " ++ toString n : String) → vx_Note p l e R s m args below meth c H locs cells slots Q (F0 m pc ls rest) "java/lang/ArrayIndexOutOfBoundsException" tx) : W p l e R s m args below meth c H locs cells slots Q (F0 m pc ls (.int i :: .ref a :: rest)) := by
  intro T hT X
  obtain ⟨t, st, q⟩ := k _ rfl T hT X
  refine ⟨t, ?_, q⟩
  have h1 := X.caloadOut hexec (by rw [hT]; exact hP q0 _ ha) ((hK.2 t0 _ ht).1 n (fun j => .int (f j))) (j := i) (by show (i < 0 ∨ (arrV _ _ _).slots.size ≤ _); rw [arrV_size]; exact Classical.byContradiction hout) (g := F0 m pc ls (.int i :: .ref a :: rest)) rfl (rest := rest) rfl (by rw [hb]; exact hdg) t
  simp only [arrV_size] at h1
  exact h1 st
theorem vx_castZ {D : va_G} {cl : List vw_C} {ws : va_W} {tys : List (ClassId × FieldType)} {a : Nat} (hexec : p.tables.exec = Jvm.exec) (hb : c.code = cc) (hK : va_K D cl tys s) (hP : va_P D cl ws H) (q0 t0 : Nat) {cA : ClassId} {n : Nat} {f : Nat → Int32} (ha : ws[q0]? = some (a, .inl (cA, n, .inl f))) (ht : tys[t0]? = some (cA, .char)) {i : Int32} {x : Int32} (hout : ¬ vp_in i n) (hdg : decode cc pc = .ok (.castore, 1))
    (k : ∀ tx : String, tx = (toString "Index " ++ toString i ++ toString " out of bounds for length " ++ toString n : String) → vx_Note p l e R s m args below meth c H locs cells slots Q (F0 m pc ls rest) "java/lang/ArrayIndexOutOfBoundsException" tx) : W p l e R s m args below meth c H locs cells slots Q (F0 m pc ls (.int x :: .int i :: .ref a :: rest)) := by
  intro T hT X
  obtain ⟨t, st, q⟩ := k _ rfl T hT X
  refine ⟨t, ?_, q⟩
  have h1 := X.castoreOut hexec (by rw [hT]; exact hP q0 _ ha) ((hK.2 t0 _ ht).1 n (fun j => .int (f j))) (j := i) (by show (i < 0 ∨ (arrV _ _ _).slots.size ≤ _); rw [arrV_size]; exact Classical.byContradiction hout) (g := F0 m pc ls (.int x :: .int i :: .ref a :: rest)) rfl (rest := rest) rfl (by rw [hb]; exact hdg) t
  simp only [arrV_size] at h1
  exact h1 st
theorem vx_saldZ {D : va_G} {cl : List vw_C} {ws : va_W} {tys : List (ClassId × FieldType)} {a : Nat} (hexec : p.tables.exec = Jvm.exec) (hb : c.code = cc) (hK : va_K D cl tys s) (hP : va_P D cl ws H) (q0 t0 : Nat) {cA : ClassId} {n : Nat} {f : Nat → Int32} (ha : ws[q0]? = some (a, .inl (cA, n, .inl f))) (ht : tys[t0]? = some (cA, .short)) {i : Int32} (hout : ¬ vp_in i n) (hdg : decode cc pc = .ok (.saload, 1))
    (k : ∀ tx : String, tx = (toString "Index " ++ toString i ++ toString " out of bounds for length " ++ toString n : String) → vx_Note p l e R s m args below meth c H locs cells slots Q (F0 m pc ls rest) "java/lang/ArrayIndexOutOfBoundsException" tx) : W p l e R s m args below meth c H locs cells slots Q (F0 m pc ls (.int i :: .ref a :: rest)) := by
  intro T hT X
  obtain ⟨t, st, q⟩ := k _ rfl T hT X
  refine ⟨t, ?_, q⟩
  have h1 := X.saloadOut hexec (by rw [hT]; exact hP q0 _ ha) ((hK.2 t0 _ ht).1 n (fun j => .int (f j))) (j := i) (by show (i < 0 ∨ (arrV _ _ _).slots.size ≤ _); rw [arrV_size]; exact Classical.byContradiction hout) (g := F0 m pc ls (.int i :: .ref a :: rest)) rfl (rest := rest) rfl (by rw [hb]; exact hdg) t
  simp only [arrV_size] at h1
  exact h1 st
theorem vx_sastZ {D : va_G} {cl : List vw_C} {ws : va_W} {tys : List (ClassId × FieldType)} {a : Nat} (hexec : p.tables.exec = Jvm.exec) (hb : c.code = cc) (hK : va_K D cl tys s) (hP : va_P D cl ws H) (q0 t0 : Nat) {cA : ClassId} {n : Nat} {f : Nat → Int32} (ha : ws[q0]? = some (a, .inl (cA, n, .inl f))) (ht : tys[t0]? = some (cA, .short)) {i : Int32} {x : Int32} (hout : ¬ vp_in i n) (hdg : decode cc pc = .ok (.sastore, 1))
    (k : ∀ tx : String, tx = (toString "Index " ++ toString i ++ toString " out of bounds for length " ++ toString n : String) → vx_Note p l e R s m args below meth c H locs cells slots Q (F0 m pc ls rest) "java/lang/ArrayIndexOutOfBoundsException" tx) : W p l e R s m args below meth c H locs cells slots Q (F0 m pc ls (.int x :: .int i :: .ref a :: rest)) := by
  intro T hT X
  obtain ⟨t, st, q⟩ := k _ rfl T hT X
  refine ⟨t, ?_, q⟩
  have h1 := X.sastoreOut hexec (by rw [hT]; exact hP q0 _ ha) ((hK.2 t0 _ ht).1 n (fun j => .int (f j))) (j := i) (by show (i < 0 ∨ (arrV _ _ _).slots.size ≤ _); rw [arrV_size]; exact Classical.byContradiction hout) (g := F0 m pc ls (.int x :: .int i :: .ref a :: rest)) rfl (rest := rest) rfl (by rw [hb]; exact hdg) t
  simp only [arrV_size] at h1
  exact h1 st
theorem vx_laldZ {D : va_G} {cl : List vw_C} {ws : va_W} {tys : List (ClassId × FieldType)} {a : Nat} (hexec : p.tables.exec = Jvm.exec) (hb : c.code = cc) (hK : va_K D cl tys s) (hP : va_P D cl ws H) (q0 t0 : Nat) {cA : ClassId} {n : Nat} {f : Nat → Int64} (ha : ws[q0]? = some (a, .inl (cA, n, .inr (.inl f)))) (ht : tys[t0]? = some (cA, .long)) {i : Int32} (hout : ¬ vp_in i n) (hdg : decode cc pc = .ok (.laload, 1))
    (k : ∀ tx : String, tx = (toString "Index " ++ toString i ++ toString " out of bounds for length " ++ toString n : String) → vx_Note p l e R s m args below meth c H locs cells slots Q (F0 m pc ls rest) "java/lang/ArrayIndexOutOfBoundsException" tx) : W p l e R s m args below meth c H locs cells slots Q (F0 m pc ls (.int i :: .ref a :: rest)) := by
  intro T hT X
  obtain ⟨t, st, q⟩ := k _ rfl T hT X
  refine ⟨t, ?_, q⟩
  have h1 := X.laloadOut hexec (by rw [hT]; exact hP q0 _ ha) ((hK.2 t0 _ ht).1 n (fun j => .long (f j))) (j := i) (by show (i < 0 ∨ (arrV _ _ _).slots.size ≤ _); rw [arrV_size]; exact Classical.byContradiction hout) (g := F0 m pc ls (.int i :: .ref a :: rest)) rfl (rest := rest) rfl (by rw [hb]; exact hdg) t
  simp only [arrV_size] at h1
  exact h1 st
theorem vx_lastZ {D : va_G} {cl : List vw_C} {ws : va_W} {tys : List (ClassId × FieldType)} {a : Nat} (hexec : p.tables.exec = Jvm.exec) (hb : c.code = cc) (hK : va_K D cl tys s) (hP : va_P D cl ws H) (q0 t0 : Nat) {cA : ClassId} {n : Nat} {f : Nat → Int64} (ha : ws[q0]? = some (a, .inl (cA, n, .inr (.inl f)))) (ht : tys[t0]? = some (cA, .long)) {i : Int32} {x : Int64} (hout : ¬ vp_in i n) (hdg : decode cc pc = .ok (.lastore, 1))
    (k : ∀ tx : String, tx = (toString "Index " ++ toString i ++ toString " out of bounds for length " ++ toString n : String) → vx_Note p l e R s m args below meth c H locs cells slots Q (F0 m pc ls rest) "java/lang/ArrayIndexOutOfBoundsException" tx) : W p l e R s m args below meth c H locs cells slots Q (F0 m pc ls (.long x :: .int i :: .ref a :: rest)) := by
  intro T hT X
  obtain ⟨t, st, q⟩ := k _ rfl T hT X
  refine ⟨t, ?_, q⟩
  have h1 := X.lastoreOut hexec (by rw [hT]; exact hP q0 _ ha) ((hK.2 t0 _ ht).1 n (fun j => .long (f j))) (j := i) (by show (i < 0 ∨ (arrV _ _ _).slots.size ≤ _); rw [arrV_size]; exact Classical.byContradiction hout) (g := F0 m pc ls (.long x :: .int i :: .ref a :: rest)) rfl (rest := rest) rfl (by rw [hb]; exact hdg) t
  simp only [arrV_size] at h1
  exact h1 st
theorem vx_faldZ {D : va_G} {cl : List vw_C} {ws : va_W} {tys : List (ClassId × FieldType)} {a : Nat} (hexec : p.tables.exec = Jvm.exec) (hb : c.code = cc) (hK : va_K D cl tys s) (hP : va_P D cl ws H) (q0 t0 : Nat) {cA : ClassId} {n : Nat} {f : Nat → UInt32} (ha : ws[q0]? = some (a, .inl (cA, n, .inr (.inr (.inl f))))) (ht : tys[t0]? = some (cA, .float)) {i : Int32} (hout : ¬ vp_in i n) (hdg : decode cc pc = .ok (.faload, 1))
    (k : ∀ tx : String, tx = (toString "Index " ++ toString i ++ toString " out of bounds for length " ++ toString n : String) → vx_Note p l e R s m args below meth c H locs cells slots Q (F0 m pc ls rest) "java/lang/ArrayIndexOutOfBoundsException" tx) : W p l e R s m args below meth c H locs cells slots Q (F0 m pc ls (.int i :: .ref a :: rest)) := by
  intro T hT X
  obtain ⟨t, st, q⟩ := k _ rfl T hT X
  refine ⟨t, ?_, q⟩
  have h1 := X.faloadOut hexec (by rw [hT]; exact hP q0 _ ha) ((hK.2 t0 _ ht).1 n (fun j => .float (f j))) (j := i) (by show (i < 0 ∨ (arrV _ _ _).slots.size ≤ _); rw [arrV_size]; exact Classical.byContradiction hout) (g := F0 m pc ls (.int i :: .ref a :: rest)) rfl (rest := rest) rfl (by rw [hb]; exact hdg) t
  simp only [arrV_size] at h1
  exact h1 st
theorem vx_fastZ {D : va_G} {cl : List vw_C} {ws : va_W} {tys : List (ClassId × FieldType)} {a : Nat} (hexec : p.tables.exec = Jvm.exec) (hb : c.code = cc) (hK : va_K D cl tys s) (hP : va_P D cl ws H) (q0 t0 : Nat) {cA : ClassId} {n : Nat} {f : Nat → UInt32} (ha : ws[q0]? = some (a, .inl (cA, n, .inr (.inr (.inl f))))) (ht : tys[t0]? = some (cA, .float)) {i : Int32} {x : UInt32} (hout : ¬ vp_in i n) (hdg : decode cc pc = .ok (.fastore, 1))
    (k : ∀ tx : String, tx = (toString "Index " ++ toString i ++ toString " out of bounds for length " ++ toString n : String) → vx_Note p l e R s m args below meth c H locs cells slots Q (F0 m pc ls rest) "java/lang/ArrayIndexOutOfBoundsException" tx) : W p l e R s m args below meth c H locs cells slots Q (F0 m pc ls (.float x :: .int i :: .ref a :: rest)) := by
  intro T hT X
  obtain ⟨t, st, q⟩ := k _ rfl T hT X
  refine ⟨t, ?_, q⟩
  have h1 := X.fastoreOut hexec (by rw [hT]; exact hP q0 _ ha) ((hK.2 t0 _ ht).1 n (fun j => .float (f j))) (j := i) (by show (i < 0 ∨ (arrV _ _ _).slots.size ≤ _); rw [arrV_size]; exact Classical.byContradiction hout) (g := F0 m pc ls (.float x :: .int i :: .ref a :: rest)) rfl (rest := rest) rfl (by rw [hb]; exact hdg) t
  simp only [arrV_size] at h1
  exact h1 st
theorem vx_daldZ {D : va_G} {cl : List vw_C} {ws : va_W} {tys : List (ClassId × FieldType)} {a : Nat} (hexec : p.tables.exec = Jvm.exec) (hb : c.code = cc) (hK : va_K D cl tys s) (hP : va_P D cl ws H) (q0 t0 : Nat) {cA : ClassId} {n : Nat} {f : Nat → UInt64} (ha : ws[q0]? = some (a, .inl (cA, n, .inr (.inr (.inr (.inl f)))))) (ht : tys[t0]? = some (cA, .double)) {i : Int32} (hout : ¬ vp_in i n) (hdg : decode cc pc = .ok (.daload, 1))
    (k : ∀ tx : String, tx = (toString "Index " ++ toString i ++ toString " out of bounds for length " ++ toString n : String) → vx_Note p l e R s m args below meth c H locs cells slots Q (F0 m pc ls rest) "java/lang/ArrayIndexOutOfBoundsException" tx) : W p l e R s m args below meth c H locs cells slots Q (F0 m pc ls (.int i :: .ref a :: rest)) := by
  intro T hT X
  obtain ⟨t, st, q⟩ := k _ rfl T hT X
  refine ⟨t, ?_, q⟩
  have h1 := X.daloadOut hexec (by rw [hT]; exact hP q0 _ ha) ((hK.2 t0 _ ht).1 n (fun j => .double (f j))) (j := i) (by show (i < 0 ∨ (arrV _ _ _).slots.size ≤ _); rw [arrV_size]; exact Classical.byContradiction hout) (g := F0 m pc ls (.int i :: .ref a :: rest)) rfl (rest := rest) rfl (by rw [hb]; exact hdg) t
  simp only [arrV_size] at h1
  exact h1 st
theorem vx_dastZ {D : va_G} {cl : List vw_C} {ws : va_W} {tys : List (ClassId × FieldType)} {a : Nat} (hexec : p.tables.exec = Jvm.exec) (hb : c.code = cc) (hK : va_K D cl tys s) (hP : va_P D cl ws H) (q0 t0 : Nat) {cA : ClassId} {n : Nat} {f : Nat → UInt64} (ha : ws[q0]? = some (a, .inl (cA, n, .inr (.inr (.inr (.inl f)))))) (ht : tys[t0]? = some (cA, .double)) {i : Int32} {x : UInt64} (hout : ¬ vp_in i n) (hdg : decode cc pc = .ok (.dastore, 1))
    (k : ∀ tx : String, tx = (toString "Index " ++ toString i ++ toString " out of bounds for length " ++ toString n : String) → vx_Note p l e R s m args below meth c H locs cells slots Q (F0 m pc ls rest) "java/lang/ArrayIndexOutOfBoundsException" tx) : W p l e R s m args below meth c H locs cells slots Q (F0 m pc ls (.double x :: .int i :: .ref a :: rest)) := by
  intro T hT X
  obtain ⟨t, st, q⟩ := k _ rfl T hT X
  refine ⟨t, ?_, q⟩
  have h1 := X.dastoreOut hexec (by rw [hT]; exact hP q0 _ ha) ((hK.2 t0 _ ht).1 n (fun j => .double (f j))) (j := i) (by show (i < 0 ∨ (arrV _ _ _).slots.size ≤ _); rw [arrV_size]; exact Classical.byContradiction hout) (g := F0 m pc ls (.double x :: .int i :: .ref a :: rest)) rfl (rest := rest) rfl (by rw [hb]; exact hdg) t
  simp only [arrV_size] at h1
  exact h1 st
theorem vx_arraylengthN (hexec : p.tables.exec = Jvm.exec) (hb : c.code = cc) (hdg : decode cc pc = .ok (.arraylength, 1)) (k : vx_NoteN p l e R s m args below meth c H locs cells slots Q (F0 m pc ls rest)) : W p l e R s m args below meth c H locs cells slots Q (F0 m pc ls (.null :: rest)) := by
  intro T hT X
  obtain ⟨t, st, q⟩ := k T hT X
  exact ⟨t, X.arraylengthNull hexec (g := F0 m pc ls (.null :: rest)) rfl (rest := rest) rfl (by rw [hb]; exact hdg) t st, q⟩
theorem vx_ialoadN (hexec : p.tables.exec = Jvm.exec) (hb : c.code = cc) {i : Int32} (hdg : decode cc pc = .ok (.iaload, 1)) (k : vx_NoteN p l e R s m args below meth c H locs cells slots Q (F0 m pc ls rest)) : W p l e R s m args below meth c H locs cells slots Q (F0 m pc ls (.int i :: .null :: rest)) := by
  intro T hT X
  obtain ⟨t, st, q⟩ := k T hT X
  exact ⟨t, X.ialoadNull hexec (g := F0 m pc ls (.int i :: .null :: rest)) rfl (rest := rest) rfl (by rw [hb]; exact hdg) t st, q⟩
theorem vx_laloadN (hexec : p.tables.exec = Jvm.exec) (hb : c.code = cc) {i : Int32} (hdg : decode cc pc = .ok (.laload, 1)) (k : vx_NoteN p l e R s m args below meth c H locs cells slots Q (F0 m pc ls rest)) : W p l e R s m args below meth c H locs cells slots Q (F0 m pc ls (.int i :: .null :: rest)) := by
  intro T hT X
  obtain ⟨t, st, q⟩ := k T hT X
  exact ⟨t, X.laloadNull hexec (g := F0 m pc ls (.int i :: .null :: rest)) rfl (rest := rest) rfl (by rw [hb]; exact hdg) t st, q⟩
theorem vx_faloadN (hexec : p.tables.exec = Jvm.exec) (hb : c.code = cc) {i : Int32} (hdg : decode cc pc = .ok (.faload, 1)) (k : vx_NoteN p l e R s m args below meth c H locs cells slots Q (F0 m pc ls rest)) : W p l e R s m args below meth c H locs cells slots Q (F0 m pc ls (.int i :: .null :: rest)) := by
  intro T hT X
  obtain ⟨t, st, q⟩ := k T hT X
  exact ⟨t, X.faloadNull hexec (g := F0 m pc ls (.int i :: .null :: rest)) rfl (rest := rest) rfl (by rw [hb]; exact hdg) t st, q⟩
theorem vx_daloadN (hexec : p.tables.exec = Jvm.exec) (hb : c.code = cc) {i : Int32} (hdg : decode cc pc = .ok (.daload, 1)) (k : vx_NoteN p l e R s m args below meth c H locs cells slots Q (F0 m pc ls rest)) : W p l e R s m args below meth c H locs cells slots Q (F0 m pc ls (.int i :: .null :: rest)) := by
  intro T hT X
  obtain ⟨t, st, q⟩ := k T hT X
  exact ⟨t, X.daloadNull hexec (g := F0 m pc ls (.int i :: .null :: rest)) rfl (rest := rest) rfl (by rw [hb]; exact hdg) t st, q⟩
theorem vx_aaloadN (hexec : p.tables.exec = Jvm.exec) (hb : c.code = cc) {i : Int32} (hdg : decode cc pc = .ok (.aaload, 1)) (k : vx_NoteN p l e R s m args below meth c H locs cells slots Q (F0 m pc ls rest)) : W p l e R s m args below meth c H locs cells slots Q (F0 m pc ls (.int i :: .null :: rest)) := by
  intro T hT X
  obtain ⟨t, st, q⟩ := k T hT X
  exact ⟨t, X.aaloadNull hexec (g := F0 m pc ls (.int i :: .null :: rest)) rfl (rest := rest) rfl (by rw [hb]; exact hdg) t st, q⟩
theorem vx_baloadN (hexec : p.tables.exec = Jvm.exec) (hb : c.code = cc) {i : Int32} (hdg : decode cc pc = .ok (.baload, 1)) (k : vx_NoteN p l e R s m args below meth c H locs cells slots Q (F0 m pc ls rest)) : W p l e R s m args below meth c H locs cells slots Q (F0 m pc ls (.int i :: .null :: rest)) := by
  intro T hT X
  obtain ⟨t, st, q⟩ := k T hT X
  exact ⟨t, X.baloadNull hexec (g := F0 m pc ls (.int i :: .null :: rest)) rfl (rest := rest) rfl (by rw [hb]; exact hdg) t st, q⟩
theorem vx_caloadN (hexec : p.tables.exec = Jvm.exec) (hb : c.code = cc) {i : Int32} (hdg : decode cc pc = .ok (.caload, 1)) (k : vx_NoteN p l e R s m args below meth c H locs cells slots Q (F0 m pc ls rest)) : W p l e R s m args below meth c H locs cells slots Q (F0 m pc ls (.int i :: .null :: rest)) := by
  intro T hT X
  obtain ⟨t, st, q⟩ := k T hT X
  exact ⟨t, X.caloadNull hexec (g := F0 m pc ls (.int i :: .null :: rest)) rfl (rest := rest) rfl (by rw [hb]; exact hdg) t st, q⟩
theorem vx_saloadN (hexec : p.tables.exec = Jvm.exec) (hb : c.code = cc) {i : Int32} (hdg : decode cc pc = .ok (.saload, 1)) (k : vx_NoteN p l e R s m args below meth c H locs cells slots Q (F0 m pc ls rest)) : W p l e R s m args below meth c H locs cells slots Q (F0 m pc ls (.int i :: .null :: rest)) := by
  intro T hT X
  obtain ⟨t, st, q⟩ := k T hT X
  exact ⟨t, X.saloadNull hexec (g := F0 m pc ls (.int i :: .null :: rest)) rfl (rest := rest) rfl (by rw [hb]; exact hdg) t st, q⟩
theorem vx_iastoreN (hexec : p.tables.exec = Jvm.exec) (hb : c.code = cc) {x : Int32} {i : Int32} (hdg : decode cc pc = .ok (.iastore, 1)) (k : vx_NoteN p l e R s m args below meth c H locs cells slots Q (F0 m pc ls rest)) : W p l e R s m args below meth c H locs cells slots Q (F0 m pc ls (.int x :: .int i :: .null :: rest)) := by
  intro T hT X
  obtain ⟨t, st, q⟩ := k T hT X
  exact ⟨t, X.iastoreNull hexec (g := F0 m pc ls (.int x :: .int i :: .null :: rest)) rfl (rest := rest) rfl (by rw [hb]; exact hdg) t st, q⟩
theorem vx_lastoreN (hexec : p.tables.exec = Jvm.exec) (hb : c.code = cc) {x : Int64} {i : Int32} (hdg : decode cc pc = .ok (.lastore, 1)) (k : vx_NoteN p l e R s m args below meth c H locs cells slots Q (F0 m pc ls rest)) : W p l e R s m args below meth c H locs cells slots Q (F0 m pc ls (.long x :: .int i :: .null :: rest)) := by
  intro T hT X
  obtain ⟨t, st, q⟩ := k T hT X
  exact ⟨t, X.lastoreNull hexec (g := F0 m pc ls (.long x :: .int i :: .null :: rest)) rfl (rest := rest) rfl (by rw [hb]; exact hdg) t st, q⟩
theorem vx_fastoreN (hexec : p.tables.exec = Jvm.exec) (hb : c.code = cc) {x : UInt32} {i : Int32} (hdg : decode cc pc = .ok (.fastore, 1)) (k : vx_NoteN p l e R s m args below meth c H locs cells slots Q (F0 m pc ls rest)) : W p l e R s m args below meth c H locs cells slots Q (F0 m pc ls (.float x :: .int i :: .null :: rest)) := by
  intro T hT X
  obtain ⟨t, st, q⟩ := k T hT X
  exact ⟨t, X.fastoreNull hexec (g := F0 m pc ls (.float x :: .int i :: .null :: rest)) rfl (rest := rest) rfl (by rw [hb]; exact hdg) t st, q⟩
theorem vx_dastoreN (hexec : p.tables.exec = Jvm.exec) (hb : c.code = cc) {x : UInt64} {i : Int32} (hdg : decode cc pc = .ok (.dastore, 1)) (k : vx_NoteN p l e R s m args below meth c H locs cells slots Q (F0 m pc ls rest)) : W p l e R s m args below meth c H locs cells slots Q (F0 m pc ls (.double x :: .int i :: .null :: rest)) := by
  intro T hT X
  obtain ⟨t, st, q⟩ := k T hT X
  exact ⟨t, X.dastoreNull hexec (g := F0 m pc ls (.double x :: .int i :: .null :: rest)) rfl (rest := rest) rfl (by rw [hb]; exact hdg) t st, q⟩
theorem vx_bastoreN (hexec : p.tables.exec = Jvm.exec) (hb : c.code = cc) {x : Int32} {i : Int32} (hdg : decode cc pc = .ok (.bastore, 1)) (k : vx_NoteN p l e R s m args below meth c H locs cells slots Q (F0 m pc ls rest)) : W p l e R s m args below meth c H locs cells slots Q (F0 m pc ls (.int x :: .int i :: .null :: rest)) := by
  intro T hT X
  obtain ⟨t, st, q⟩ := k T hT X
  exact ⟨t, X.bastoreNull hexec (g := F0 m pc ls (.int x :: .int i :: .null :: rest)) rfl (rest := rest) rfl (by rw [hb]; exact hdg) t st, q⟩
theorem vx_castoreN (hexec : p.tables.exec = Jvm.exec) (hb : c.code = cc) {x : Int32} {i : Int32} (hdg : decode cc pc = .ok (.castore, 1)) (k : vx_NoteN p l e R s m args below meth c H locs cells slots Q (F0 m pc ls rest)) : W p l e R s m args below meth c H locs cells slots Q (F0 m pc ls (.int x :: .int i :: .null :: rest)) := by
  intro T hT X
  obtain ⟨t, st, q⟩ := k T hT X
  exact ⟨t, X.castoreNull hexec (g := F0 m pc ls (.int x :: .int i :: .null :: rest)) rfl (rest := rest) rfl (by rw [hb]; exact hdg) t st, q⟩
theorem vx_sastoreN (hexec : p.tables.exec = Jvm.exec) (hb : c.code = cc) {x : Int32} {i : Int32} (hdg : decode cc pc = .ok (.sastore, 1)) (k : vx_NoteN p l e R s m args below meth c H locs cells slots Q (F0 m pc ls rest)) : W p l e R s m args below meth c H locs cells slots Q (F0 m pc ls (.int x :: .int i :: .null :: rest)) := by
  intro T hT X
  obtain ⟨t, st, q⟩ := k T hT X
  exact ⟨t, X.sastoreNull hexec (g := F0 m pc ls (.int x :: .int i :: .null :: rest)) rfl (rest := rest) rfl (by rw [hb]; exact hdg) t st, q⟩
theorem vx_invokeN {own C : String} {index maxL : Nat} {y : MethodName} {bytes : ByteArray} {ret : Option FieldType} (hexec : p.tables.exec = Jvm.exec) (hb : c.code = cc) (hown : s.vm.findClass own = some m.cls) (hlink : (Cond.methodLink own index y).before args s = true) (hinst : (Cond.instanceMethod y).before args s = true) (hcode : (Cond.code y bytes maxL ret).before args s = true) (hsel : (Cond.selects C y y).before args s = true)
    (hx : y.cls ≠ "java/lang/invoke/MethodHandle" ∧ y.cls ≠ "java/lang/invoke/VarHandle") {As : List Value} (hlen : (parseMethodDescriptor y.desc).map (fun d => d.parameters.length) = some As.length) (hdg : decode cc pc = .ok (.invokevirtual index, 3))
    (k : vx_NoteN p l e R s m args below meth c H locs cells slots Q (F0 m pc ls rest)) {st0 : List Value} (hst : st0 = As.reverse ++ .null :: rest) : W p l e R s m args below meth c H locs cells slots Q (F0 m pc ls st0) := by
  intro T hT X
  obtain ⟨r0, r, hn, hrm, hstR, hsigR⟩ := va_Decl.of hinst hcode
  obtain ⟨c2, r2, m2, q1, q2, q3, q4, kP, hkP, hkPi⟩ := Cond.selects_spec hsel
  cases hn.symm.trans q3
  have hl9 : As.length = r.sig.parameters.length := by
    rw [hsigR] at hlen
    exact (Option.some.inj hlen).symm
  obtain ⟨vm', X1, st1⟩ := X.invokevirtualNull hexec hown hlink hn hrm hstR hkP hkPi hx (g := F0 m pc ls st0) rfl (argsL := As) (rest := rest) hl9 hst (by rw [hb]; exact hdg)
  obtain ⟨t, st, q⟩ := k (T.setVm vm') hT X1
  exact ⟨t, st1 t st, q⟩
theorem vx_newarrayZ {atype : ArrayType} (hexec : p.tables.exec = Jvm.exec) (hb : c.code = cc) {n : Int32} (h0 : n < 0) (hdg : decode cc pc = .ok (.newarray atype, 2)) (k : ∀ tx : String, tx = toString n → vx_Note p l e R s m args below meth c H locs cells slots Q (F0 m pc ls rest) "java/lang/NegativeArraySizeException" tx) : W p l e R s m args below meth c H locs cells slots Q (F0 m pc ls (.int n :: rest)) := by
  intro T hT X
  obtain ⟨t, st, q⟩ := k _ rfl T hT X
  exact ⟨t, X.newarrayNegative hexec (g := F0 m pc ls (.int n :: rest)) rfl h0 (rest := rest) rfl (by rw [hb]; exact hdg) t st, q⟩
end
end VXM
/-! ===== END ===== -/
/-! ===== BEGIN an exception as an object: made, kept, thrown later (no traces kept) ===== -/
section VXK
variable {p : Program} {l : Launch} {e : Env} {R : Room} {s : State} {m₀ : MethodId} {args : Array Value} {below : List Frame} {meth : Method} {c : Code} {W : State} {locs : List Loc} {cells slots : Nat}
set_option maxHeartbeats 1000000 in
theorem vx_ctorMadeS (X : Stand p l e R s m₀ args below meth c W locs cells slots) (hexec : p.tables.exec = Jvm.exec) (htr : e.platform.stackTraces = false) {own cls : String} {names : List String} {ic : Nat}
    (hown : s.vm.findClass own = some m₀.cls) (hcls : Bundle.fit cls = true) (hnames : ∀ n ∈ names, Bundle.fit n = true)
    (h : ∀ a ∈ Bundle.ownAtoms own ic cls names, a.before args s = true)
    (hlocs : ∀ x ∈ locs, ∀ cell, s.heap[x.base]? = some cell → cell.vm.isStatics = false)
    {a : Addr} {cX : ClassId} {kX : Class} (hfoundX : s.vm.findClass cls = some cX) (hkX : s.vm.classes[cX]? = some kX) (hcell : W.heap[a]? = some (freshCell cX kX)) (hnew : s.heap.size ≤ a)
    {msg : Value} (hmsg : msg.isRef = true)
    {g : JFrame} (hg : g.method = m₀) (hsize : g.locals.size = c.maxLocals) {rest : List Value} (hstack : g.stack = msg :: .ref a :: .ref a :: rest)
    (hd6 : decode c.code g.pc = .ok (.invokespecial ic, 3))
    (hRframes : names.length + 3 < R.frames) (hRlocals : 2 * g.monitorRoom + ((Value.ref a :: rest).map fun v => v.category).sum + (13 * (names.length + 1) + 42) ≤ R.locals) :
    ∃ (V : State) (ce : Cell) (L : List Loc), Stand p l e R s m₀ args below meth c (V.setCell a ce) (locs ++ L) cells slots ∧ (∀ y ∈ L, y.base = a) ∧ a < V.heap.size ∧ ce.cls = cX ∧ ce.vm = .none ∧
      ∀ target, Steps p.tables e below ((V.setCell a ce).setTop { g with stack := .ref a :: rest, pc := g.pc + 3 }) target → Steps p.tables e below (W.setTop g) target := by
  have howns : e.platform.frameOwnsMonitors = true := by rw [X.admits.platform]
  have hfin : e.platform.finalization = false := by rw [X.admits.platform]
  have hpl : e.platform.magicAccessors = ({} : Platform).magicAccessors := by rw [X.admits.platform]
  have a' : ∀ x, x ∈ Bundle.ownAtoms own ic cls names → x.holds args s none s [] = true := fun x hx => h x hx
  obtain ⟨T, Z0, L, -, Y⟩ := ThrowableC.of_atoms (args := args) howns hfin hpl (fun x hx => h x (by simp [Bundle.ownAtoms, hx]))
  obtain ⟨Z, M, LZ, LM, hnZ⟩ := Init0T.ofS_atoms (args := args) hpl L Y (fun x hx => h x (by simp [Bundle.ownAtoms, hx]))
  obtain ⟨P1, Ps, hlen, L1, hL, hP1m, hlink1, hlink⟩ := Bundle.chainS (args := args) hpl hnZ names cls hcls hnames (fun x hx => h x (by simp [Bundle.ownAtoms, hx]))
  have hfound : s.vm.findClass cls = some P1.m.cls := findClass_of_methodNamed hP1m
  cases Option.some.inj (hfoundX.symm.trans hfound)
  obtain ⟨c1, kX', hc1, hk, hord, -, -, hn6⟩ := Cond.instantiable_spec (a' (.instantiable cls 6) (by simp [Bundle.ownAtoms]))
  cases Option.some.inj (hc1.symm.trans hfound)
  cases Option.some.inj (hkX.symm.trans hk)
  have hsel0 : selectMethod e.platform s.vm P1.m.cls T.fill0 = .method T.fill0 := by
    obtain ⟨c2, r2, m2, q1, q2, q3, q4, -⟩ := Cond.selects_spec (a' (.selects cls Bundle.tFill0 Bundle.tFill0) (by simp [Bundle.ownAtoms]))
    cases Option.some.inj (q1.symm.trans hfound)
    cases Option.some.inj (q2.symm.trans (State.methodFound?_of_named Y.fill0 (by decide)))
    cases Option.some.inj (q3.symm.trans Y.fill0)
    rw [Launch.admits_selectMethod X.admits]; exact q4
  have hselF : selectMethod e.platform s.vm P1.m.cls T.fill = .method T.fill := by
    obtain ⟨c2, r2, m2, q1, q2, q3, q4, -⟩ := Cond.selects_spec (a' (.selects cls Bundle.tFill Bundle.tFill) (by simp [Bundle.ownAtoms]))
    cases Option.some.inj (q1.symm.trans hfound)
    cases Option.some.inj (q2.symm.trans (State.methodFound?_of_named Y.fill (by decide)))
    cases Option.some.inj (q3.symm.trans Y.fill)
    rw [Launch.admits_selectMethod X.admits]; exact q4
  obtain ⟨cellS0, hcS0, hiss⟩ := Y.statics
  obtain ⟨u0, hu0⟩ := Cond.staticRefV Y.unassigned L.unassignedStatic L.statics hcS0 hiss (a' (.isRef (.static Bundle.tN "UNASSIGNED_STACK" Bundle.steD)) (by simp [Bundle.ownAtoms]))
  obtain ⟨sen, hsen⟩ := Cond.staticRefV Y.sentinel L.sentinelStatic L.statics hcS0 hiss (a' (.isRef (.static Bundle.tN "SUPPRESSED_SENTINEL" Bundle.listD)) (by simp [Bundle.ownAtoms]))
  obtain ⟨ci198, i198, fB, hk198, hg198, ha198, hsB, -, hnB, htB, hffB⟩ := Cond.ownField (t := .object "java/lang/Object") Y.found L.cls (by decide +kernel) (a' (.fieldLink Bundle.tN 198 Bundle.tN "backtrace" "Ljava/lang/Object;") (by simp [Bundle.ownAtoms])) (a' (.lays Bundle.tN Bundle.tN "backtrace" "Ljava/lang/Object;") (by simp [Bundle.ownAtoms])) e.platform hpl
  obtain ⟨cellS, hcS', heS, -, hkeep⟩ := X.same.2.2.2.2.2 T.aS cellS0 hcS0
  have hcellS : W.heap[T.aS]? = some cellS := hcS'
  have hout' : ∀ i, (⟨T.aS, i⟩ : Loc) ∉ locs := fun i hmem => by
    have := hlocs _ hmem cellS0 hcS0
    rw [hiss] at this; cases this
  have hknownS : cellS.vm ≠ .unknown := by
    rw [heS]; intro hu
    rw [show cellS0.vm = .unknown from hu] at hiss
    cases hiss
  have hneS : T.aS ≠ a := Nat.ne_of_lt (Nat.lt_of_lt_of_le (Array.getElem?_eq_some_iff.mp hcS0).1 hnew)
  obtain ⟨iM, hffM⟩ := Y.msg
  obtain ⟨tyC, dC, hdC, hdnC⟩ := Cond.laysAt hfound hk Y.cause (a' (.lays cls Bundle.tN "cause" "Ljava/lang/Throwable;") (by simp [Bundle.ownAtoms]))
  obtain ⟨tyS, dS, hdS, hdnS⟩ := Cond.laysAt hfound hk Y.stack (a' (.lays cls Bundle.tN "stackTrace" Bundle.steD) (by simp [Bundle.ownAtoms]))
  obtain ⟨tyP, dP, hdP, hdnP⟩ := Cond.laysAt hfound hk Y.supp (a' (.lays cls Bundle.tN "suppressedExceptions" Bundle.listD) (by simp [Bundle.ownAtoms]))
  obtain ⟨tyM, dM, hdM, hdnM⟩ := Cond.laysAt hfound hk hffM (a' (.lays cls Bundle.tN "detailMessage" "Ljava/lang/String;") (by simp [Bundle.ownAtoms]))
  obtain ⟨tyB, dB, hdB, hdnB⟩ := Cond.laysAt hfound hk hffB (a' (.lays cls Bundle.tN "backtrace" "Ljava/lang/Object;") (by simp [Bundle.ownAtoms]))
  have bC := Cond.laysApart hdB hdC hdnB hdnC (by rw [hnB, Y.causeName]; decide)
  have bS := Cond.laysApart hdB hdS hdnB hdnS (by rw [hnB, Y.stackName]; decide)
  have bP := Cond.laysApart hdB hdP hdnB hdnP (by rw [hnB, Y.suppName]; decide)
  have hskip : SkipFacts T e.platform s (fun u => u) u0 ((preparedCellV T.toThrowableT (freshCell P1.m.cls kX) a u0 sen).withEntry W.cur) :=
    ⟨{ ci198 := ci198, i198 := i198, fBack := fB }, ⟨hk198, hg198, ha198, hsB⟩, by
      have := fresh_default (c := P1.m.cls) tyB
      rw [htB] at this
      simpa [preparedCellV, Cell.setSlot, Cell.withEntry, Array.getElem?_setIfInBounds, bC, bS, bP, bC.symm, bS.symm, bP.symm, defaultValue] using this, fun _ _ => rfl⟩
  obtain ⟨tm, methC, cdC, kC, vm₁, hnC, -, -, -, -, -, -, -, hW₁, st1⟩ := Steps.initColdS (tb := p.tables) (e := e) (below := below) (s := s) (U := W) X.here hexec X.warmed hpl hown (t := Bundle.initS cls) rfl rfl (Bundle.fit_spec hcls).2
    (a' (.methodLink own ic (Bundle.initS cls)) (by simp [Bundle.ownAtoms])) (h (.instanceMethod (Bundle.initS cls)) (by cases names <;> simp [Bundle.ownAtoms, Bundle.chainSAtoms, Bundle.passSAtoms])) (bytes := Bundle.six) (maxL := 2) (h (.code (Bundle.initS cls) Bundle.six 2 none) (by cases names <;> simp [Bundle.ownAtoms, Bundle.chainSAtoms, Bundle.passSAtoms]))
    (f := g) hg (a := a) (msg := msg) (rest := .ref a :: rest) hstack hd6
  cases Option.some.inj (hnC.symm.trans hP1m)
  have X₁ := X.noted hW₁
  obtain ⟨vm₂, X₂, st2⟩ := X₁.ctorMessageOffV hexec (g := { g with stack := .ref a :: rest }) hg hsize T L Z LZ M LM (P1 :: Ps)
    (fun P hP => by rcases List.mem_cons.mp hP with rfl | hP; exact L1; exact hL P hP) ⟨hlink1, hlink⟩ (u0 := u0) (sen := sen) (self := a) hmsg (cell := freshCell P1.m.cls kX) (cellS := cellS)
    hcell (fun _ => by simp) (by simp) rfl rfl hsel0 hselF hcellS hneS hknownS (by rw [hkeep _ (hout' _)]; exact hu0) (by rw [hkeep _ (hout' _)]; exact hsen)
    (Takes.of_laid hk hord tyC (by rw [Y.causeType]; rfl)) (Takes.of_laid hk hord tyS (by rw [Y.stackType]; exact fits_refV_array _ u0)) (Takes.of_laid hk hord tyP (by rw [Y.suppType]; exact fits_refV_object _ sen))
    (Takes.of_laid hk hord tyM (by rw [Y.msgType]; exact fits_refV_object _ ⟨msg, hmsg⟩)) Y.objLocals hskip htr [] hd6
    (by simp only [List.length_cons, hlen]; omega) (by simp only [List.length_cons, hlen]; exact hRlocals)
  have hlt : a < ((W.setVm vm₁).setVm vm₂).heap.size := (Array.getElem?_eq_some_iff.mp hcell).1
  refine ⟨(W.setVm vm₁).setVm vm₂, _, _, X₂, fun y hy => ?_, hlt, rfl, rfl, fun target hwalk => st1 _ (fun acts => ?_)⟩
  · simp only [List.mem_cons, List.not_mem_nil, or_false] at hy
    rcases hy with rfl | rfl | rfl | rfl | rfl <;> rfl
  · rw [doInvoke_state]
    exact st2 _ hwalk
set_option maxHeartbeats 1000000 in
theorem vx_ctorMade0 (X : Stand p l e R s m₀ args below meth c W locs cells slots) (hexec : p.tables.exec = Jvm.exec) (htr : e.platform.stackTraces = false) {own cls : String} {names : List String} {ic : Nat}
    (hown : s.vm.findClass own = some m₀.cls) (hcls : Bundle.fit cls = true) (hnames : ∀ n ∈ names, Bundle.fit n = true)
    (h : ∀ a ∈ Bundle.ownAtoms0 own ic cls names, a.before args s = true)
    (hlocs : ∀ x ∈ locs, ∀ cell, s.heap[x.base]? = some cell → cell.vm.isStatics = false)
    {a : Addr} {cX : ClassId} {kX : Class} (hfoundX : s.vm.findClass cls = some cX) (hkX : s.vm.classes[cX]? = some kX) (hcell : W.heap[a]? = some (freshCell cX kX)) (hnew : s.heap.size ≤ a)
    {g : JFrame} (hg : g.method = m₀) (hsize : g.locals.size = c.maxLocals) {rest : List Value} (hstack : g.stack = .ref a :: .ref a :: rest)
    (hd6 : decode c.code g.pc = .ok (.invokespecial ic, 3))
    (hRframes : names.length + 3 < R.frames) (hRlocals : 2 * g.monitorRoom + ((Value.ref a :: rest).map fun v => v.category).sum + (13 * (names.length + 1) + 41) ≤ R.locals) :
    ∃ (V : State) (ce : Cell) (L : List Loc), Stand p l e R s m₀ args below meth c (V.setCell a ce) (locs ++ L) cells slots ∧ (∀ y ∈ L, y.base = a) ∧ a < V.heap.size ∧ ce.cls = cX ∧ ce.vm = .none ∧
      ∀ target, Steps p.tables e below ((V.setCell a ce).setTop { g with stack := .ref a :: rest, pc := g.pc + 3 }) target → Steps p.tables e below (W.setTop g) target := by
  have howns : e.platform.frameOwnsMonitors = true := by rw [X.admits.platform]
  have hfin : e.platform.finalization = false := by rw [X.admits.platform]
  have hpl : e.platform.magicAccessors = ({} : Platform).magicAccessors := by rw [X.admits.platform]
  have a' : ∀ x, x ∈ Bundle.ownAtoms0 own ic cls names → x.holds args s none s [] = true := fun x hx => h x hx
  obtain ⟨T, Z, L, LZ, Y⟩ := ThrowableC.of_atoms (args := args) howns hfin hpl (fun x hx => h x (by simp [Bundle.ownAtoms0, hx]))
  obtain ⟨P1, Ps, hlen, L1, hL, hP1m, hlink1, hlink⟩ := Bundle.chain0 (args := args) hpl Y.init0 names cls hcls hnames (fun x hx => h x (by simp [Bundle.ownAtoms0, hx]))
  have hfound : s.vm.findClass cls = some P1.m.cls := findClass_of_methodNamed hP1m
  cases Option.some.inj (hfoundX.symm.trans hfound)
  obtain ⟨c1, kX', hc1, hk, hord, -, -, hn6⟩ := Cond.instantiable_spec (a' (.instantiable cls 6) (by simp [Bundle.ownAtoms0]))
  cases Option.some.inj (hc1.symm.trans hfound)
  cases Option.some.inj (hkX.symm.trans hk)
  have hsel0 : selectMethod e.platform s.vm P1.m.cls T.fill0 = .method T.fill0 := by
    obtain ⟨c2, r2, m2, q1, q2, q3, q4, -⟩ := Cond.selects_spec (a' (.selects cls Bundle.tFill0 Bundle.tFill0) (by simp [Bundle.ownAtoms0]))
    cases Option.some.inj (q1.symm.trans hfound)
    cases Option.some.inj (q2.symm.trans (State.methodFound?_of_named Y.fill0 (by decide)))
    cases Option.some.inj (q3.symm.trans Y.fill0)
    rw [Launch.admits_selectMethod X.admits]; exact q4
  have hselF : selectMethod e.platform s.vm P1.m.cls T.fill = .method T.fill := by
    obtain ⟨c2, r2, m2, q1, q2, q3, q4, -⟩ := Cond.selects_spec (a' (.selects cls Bundle.tFill Bundle.tFill) (by simp [Bundle.ownAtoms0]))
    cases Option.some.inj (q1.symm.trans hfound)
    cases Option.some.inj (q2.symm.trans (State.methodFound?_of_named Y.fill (by decide)))
    cases Option.some.inj (q3.symm.trans Y.fill)
    rw [Launch.admits_selectMethod X.admits]; exact q4
  obtain ⟨cellS0, hcS0, hiss⟩ := Y.statics
  obtain ⟨u0, hu0⟩ := Cond.staticRefV Y.unassigned L.unassignedStatic L.statics hcS0 hiss (a' (.isRef (.static Bundle.tN "UNASSIGNED_STACK" Bundle.steD)) (by simp [Bundle.ownAtoms0]))
  obtain ⟨sen, hsen⟩ := Cond.staticRefV Y.sentinel L.sentinelStatic L.statics hcS0 hiss (a' (.isRef (.static Bundle.tN "SUPPRESSED_SENTINEL" Bundle.listD)) (by simp [Bundle.ownAtoms0]))
  obtain ⟨ci198, i198, fB, hk198, hg198, ha198, hsB, -, hnB, htB, hffB⟩ := Cond.ownField (t := .object "java/lang/Object") Y.found L.cls (by decide +kernel) (a' (.fieldLink Bundle.tN 198 Bundle.tN "backtrace" "Ljava/lang/Object;") (by simp [Bundle.ownAtoms0])) (a' (.lays Bundle.tN Bundle.tN "backtrace" "Ljava/lang/Object;") (by simp [Bundle.ownAtoms0])) e.platform hpl
  obtain ⟨cellS, hcS', heS, -, hkeep⟩ := X.same.2.2.2.2.2 T.aS cellS0 hcS0
  have hcellS : W.heap[T.aS]? = some cellS := hcS'
  have hout' : ∀ i, (⟨T.aS, i⟩ : Loc) ∉ locs := fun i hmem => by
    have := hlocs _ hmem cellS0 hcS0
    rw [hiss] at this; cases this
  have hknownS : cellS.vm ≠ .unknown := by
    rw [heS]; intro hu
    rw [show cellS0.vm = .unknown from hu] at hiss
    cases hiss
  have hneS : T.aS ≠ a := Nat.ne_of_lt (Nat.lt_of_lt_of_le (Array.getElem?_eq_some_iff.mp hcS0).1 hnew)
  obtain ⟨iM, hffM⟩ := Y.msg
  obtain ⟨tyC, dC, hdC, hdnC⟩ := Cond.laysAt hfound hk Y.cause (a' (.lays cls Bundle.tN "cause" "Ljava/lang/Throwable;") (by simp [Bundle.ownAtoms0]))
  obtain ⟨tyS, dS, hdS, hdnS⟩ := Cond.laysAt hfound hk Y.stack (a' (.lays cls Bundle.tN "stackTrace" Bundle.steD) (by simp [Bundle.ownAtoms0]))
  obtain ⟨tyP, dP, hdP, hdnP⟩ := Cond.laysAt hfound hk Y.supp (a' (.lays cls Bundle.tN "suppressedExceptions" Bundle.listD) (by simp [Bundle.ownAtoms0]))
  obtain ⟨tyM, dM, hdM, hdnM⟩ := Cond.laysAt hfound hk hffM (a' (.lays cls Bundle.tN "detailMessage" "Ljava/lang/String;") (by simp [Bundle.ownAtoms0]))
  obtain ⟨tyB, dB, hdB, hdnB⟩ := Cond.laysAt hfound hk hffB (a' (.lays cls Bundle.tN "backtrace" "Ljava/lang/Object;") (by simp [Bundle.ownAtoms0]))
  have bC := Cond.laysApart hdB hdC hdnB hdnC (by rw [hnB, Y.causeName]; decide)
  have bS := Cond.laysApart hdB hdS hdnB hdnS (by rw [hnB, Y.stackName]; decide)
  have bP := Cond.laysApart hdB hdP hdnB hdnP (by rw [hnB, Y.suppName]; decide)
  have hskip : SkipFacts T e.platform s (fun u => u) u0 ((preparedCellV T.toThrowableT (freshCell P1.m.cls kX) a u0 sen).withEntry W.cur) :=
    ⟨{ ci198 := ci198, i198 := i198, fBack := fB }, ⟨hk198, hg198, ha198, hsB⟩, by
      have := fresh_default (c := P1.m.cls) tyB
      rw [htB] at this
      simpa [preparedCellV, Cell.setSlot, Cell.withEntry, Array.getElem?_setIfInBounds, bC, bS, bP, bC.symm, bS.symm, bP.symm, defaultValue] using this, fun _ _ => rfl⟩
  obtain ⟨tm, methC, cdC, kC, vm₁, hnC, -, -, -, -, -, -, -, hW₁, st1⟩ := Steps.initCold (tb := p.tables) (e := e) (below := below) (s := s) (U := W) X.here hexec X.warmed hpl hown (t := Bundle.init0 cls) rfl rfl (Bundle.fit_spec hcls).2
    (a' (.methodLink own ic (Bundle.init0 cls)) (by simp [Bundle.ownAtoms0])) (h (.instanceMethod (Bundle.init0 cls)) (by cases names <;> simp [Bundle.ownAtoms0, Bundle.chain0Atoms, Bundle.passAtoms])) (bytes := Bundle.five) (maxL := 1) (h (.code (Bundle.init0 cls) Bundle.five 1 none) (by cases names <;> simp [Bundle.ownAtoms0, Bundle.chain0Atoms, Bundle.passAtoms]))
    (f := g) hg (a := a) (rest := .ref a :: rest) hstack hd6
  cases Option.some.inj (hnC.symm.trans hP1m)
  have X₁ := X.noted hW₁
  obtain ⟨vm₂, X₂, st2⟩ := X₁.ctorPlainOffV hexec (g := { g with stack := .ref a :: rest }) hg hsize T L Z LZ (P1 :: Ps)
    (fun P hP => by rcases List.mem_cons.mp hP with rfl | hP; exact L1; exact hL P hP) ⟨hlink1, hlink⟩ (u0 := u0) (sen := sen) (self := a) (cell := freshCell P1.m.cls kX) (cellS := cellS)
    hcell (fun _ => by simp) (by simp) rfl rfl hsel0 hselF hcellS hneS hknownS (by rw [hkeep _ (hout' _)]; exact hu0) (by rw [hkeep _ (hout' _)]; exact hsen)
    (Takes.of_laid hk hord tyC (by rw [Y.causeType]; rfl)) (Takes.of_laid hk hord tyS (by rw [Y.stackType]; exact fits_refV_array _ u0)) (Takes.of_laid hk hord tyP (by rw [Y.suppType]; exact fits_refV_object _ sen)) Y.objLocals hskip htr [] hd6
    (by simp only [List.length_cons, hlen]; omega) (by simp only [List.length_cons, hlen]; exact hRlocals)
  have hlt : a < ((W.setVm vm₁).setVm vm₂).heap.size := (Array.getElem?_eq_some_iff.mp hcell).1
  refine ⟨(W.setVm vm₁).setVm vm₂, _, _, X₂, fun y hy => ?_, hlt, rfl, rfl, fun target hwalk => st1 _ (fun acts => ?_)⟩
  · simp only [List.mem_cons, List.not_mem_nil, or_false] at hy
    rcases hy with rfl | rfl | rfl | rfl <;> rfl
  · rw [doInvoke_state]
    exact st2 _ hwalk
end VXK
section VXK2
variable {p : Program} {l : Launch} {e : Env} {R : Room} {s : State} {m : MethodId} {args : Array Value} {below : List Frame} {meth : Method} {c : Code} {H : Heap} {locs : List Loc} {cells slots : Nat} {Q : State → Prop}
variable {ls : Array Slot} {rest : List Value} {D : va_G} {cl : List vw_C} {tys : List (ClassId × FieldType)} {ws : va_W}
/-- 'new E("text")' that isn't thrown at once: the object goes on the stack -/
theorem vx_makeS {cc : ByteArray} {pc : Nat} (hexec : p.tables.exec = Jvm.exec) (hb : c.code = cc) (hl : l.stackTraces = false) {own cls text : String} {names : List String} {ik is ic sa ci : Nat} {A : Nat → Prop} {T0 : u_T}
    (hown : s.vm.findClass own = some m.cls) (hcls : Bundle.fit cls = true) (hnames : ∀ n ∈ names, Bundle.fit n = true)
    (hk : (Cond.classLink own ik cls).before args s = true) (hini : (Cond.initialized cls).before args s = true) (hstr : vk_R own is text sa s) (hat : ∀ w ∈ vx_atS own ic cls names, w.before args s = true)
    (hgood : ∀ w ∈ Cond.classLink own ik cls :: Cond.initialized cls :: vx_atS own ic cls names, vx_ot w = true)
    (hU : vx_Zq Bundle.tN "UNASSIGNED_STACK" Bundle.steD A s s.heap) (hN : vx_Zq Bundle.tN "SUPPRESSED_SENTINEL" Bundle.listD A s s.heap) (hS : va_S A s.heap H locs) (hsize : ls.size = c.maxLocals)
    (d0 : decode cc pc = .ok (.new ik, 3)) (d3 : decode cc (pc + 3) = .ok (.dup, 1)) (d4 : decode cc (pc + 4) = .ok (.ldc is, 2)) (d6 : decode cc (pc + 6) = .ok (.invokespecial ic, 3))
    (hK : va_K D cl tys s) (hP : va_P D cl ws H) (hD : va_D A ws) (hA : ∀ q, s.heap.size ≤ q → A q) (hc : cl[ci]? = some (cls, T0, 0))
    (hRframes : names.length + 3 < R.frames) (hRlocals : (rest.map fun v => v.category).sum + (13 * (names.length + 1) + 43) ≤ R.locals) (hRcells : cells + 1 ≤ R.cells) (hRslots : slots + 6 ≤ R.slots)
    (kk : ∀ (q : Nat) (H1 : Heap), va_P D cl (ws ++ [(q, .inr (ci, []))]) H1 → va_D A (ws ++ [(q, .inr (ci, []))]) → va_S A s.heap H1 locs → W p l e R s m args below meth c H1 locs (cells + 1) (slots + 6) Q (F0 m (pc + 9) ls (.ref q :: rest))) :
    W p l e R s m args below meth c H locs cells slots Q (F0 m pc ls rest) := by
  intro T hT X
  subst hT
  have htr : e.platform.stackTraces = false := (show e.platform.stackTraces = l.stackTraces by rw [X.admits.platform]).trans hl
  have Y := vx_rebase X (R' := { frames := R.frames, locals := R.locals, cells := 1, slots := 6 }) (Nat.le_refl _) (Nat.le_refl _) hRcells hRslots
  obtain ⟨s', hA'⟩ : ∃ z, z = (T.setVm s.vm).setFrames (.invoking m args :: below) := ⟨_, rfl⟩
  rw [← hA'] at Y
  have hvm : s'.vm = s.vm := by rw [hA']; rfl
  have hhp : s'.heap = T.heap := by rw [hA']; rfl
  have hW0 : s.WarmedH s'.vm := by rw [hvm]; exact State.WarmedH.refl s
  have hat' : ∀ w ∈ vx_atS own ic cls names, w.before args s' = true := fun w hw => vx_ot_at hW0 hvm.symm (hgood w (List.mem_cons_of_mem _ (List.mem_cons_of_mem _ hw))) (hat w hw)
  have hk' : (Cond.classLink own ik cls).before args s' = true := vx_ot_at hW0 hvm.symm (hgood _ List.mem_cons_self) hk
  have hini' : (Cond.initialized cls).before args s' = true := vx_ot_at hW0 hvm.symm (hgood _ (List.mem_cons_of_mem _ List.mem_cons_self)) hini
  have hU' : vx_Zq Bundle.tN "UNASSIGNED_STACK" Bundle.steD A s' s'.heap := by rw [hhp]; exact vx_Zq.moved hW0.alike (hU.kept hS.2.1)
  have hN' : vx_Zq Bundle.tN "SUPPRESSED_SENTINEL" Bundle.listD A s' s'.heap := by rw [hhp]; exact vx_Zq.moved hW0.alike (hN.kept hS.2.1)
  have h : ∀ w ∈ Bundle.ownAtoms own ic cls names, w.before args s' = true := vx_own hat' (vx_isRefq hU'.1) (vx_isRefq hN'.1) hU'.2.word hN'.2.word
  have hown' : s'.vm.findClass own = some m.cls := by rw [hvm]; exact hown
  have hins : (Cond.instantiable cls 6).before args s' = true := h _ (by simp [Bundle.ownAtoms])
  obtain ⟨vm₁, cX, kX, hfX, hkX, -, -, X₁, st1⟩ := Y.newCold hexec (own := own) (C := cls) (index := ik) (n := 6) hown' hk' hins hini'
    (g := F0 m pc ls rest) rfl (by rw [hb]; exact d0) (Nat.le_refl _) (Nat.le_refl _)
  generalize hT1 : (T.setVm vm₁).pushCell { cls := cX, slots := kX.instanceTypes.map defaultValue, vm := .none } = T1 at X₁ st1
  have hcat : (Value.ref T.heap.size).category = 1 := rfl
  have hcellA : T1.heap[T.heap.size]? = some (freshCell cX kX) := by rw [← hT1]; exact State.heap_pushCell_size _ _
  have d3' : decode c.code (pc + 3) = .ok (.dup, 1) := by rw [hb]; exact d3
  have d4' : decode c.code (pc + 4) = .ok (.ldc is, 2) := by rw [hb]; exact d4
  have hstr' : vk_R own is text sa s' := vk_R.warm hW0 hstr
  obtain ⟨V, ce, L, Z, hL, hlt, hcl9, hvm9, st⟩ := vx_ctorMadeS X₁ hexec htr (own := own) (cls := cls) (names := names) (ic := ic) hown' hcls hnames h (fun x hx => nomatch hx) hfX hkX hcellA (by rw [hhp]; exact Nat.le_refl _) (msg := .ref sa) rfl
    (g := { method := m, pc := pc + 6, locals := ls, stack := .ref sa :: .ref T.heap.size :: .ref T.heap.size :: rest, locked := none }) rfl hsize (rest := rest) rfl
    (by rw [hb]; exact d6) hRframes (by simp only [List.map_cons, List.sum_cons, hcat]; omega)
  have Z0 := Stand.forget (locs := []) Z (fun y hy => by rw [hL y hy, hhp]; exact Nat.le_refl _)
  obtain ⟨f1, f2⟩ := vx_frame Z0.same
  rw [hhp] at f1 f2
  have hcid : ce.cls = D.1 ci := by
    rw [hcl9]
    have h1 := (hK.1 ci _ hc).2.1
    rw [hvm] at hfX
    exact Option.some.inj (hfX.symm.trans h1)
  have hh : (V.setCell T.heap.size ce).heap[T.heap.size]? = some ce := heapAt_setCell_self (s := V) ce hlt
  subst hA'
  have X5 := vx_back9 X Y Z0
  have X6 : Stand p l e R s m args below meth c (V.setCell T.heap.size ce) locs (cells + 1) (slots + 6) := { X5 with same := X5.same.mono (by omega) (by omega) }
  have hk9 : ∀ (k : Nat) (x : Nat × va_E), ws[k]? = some x → (V.setCell T.heap.size ce).heap[x.1]? = T.heap[x.1]? := fun k x hx => f2 x.1 ((hP k x hx).lt) (fun z hz => nomatch hz)
  obtain ⟨t, a1, b1⟩ := kk T.heap.size (V.setCell T.heap.size ce).heap ((hP.kept hk9).app (fun k x hx => by
      have hz : k < 1 := (List.getElem?_eq_some_iff.mp hx).1
      rw [show k = 0 by omega] at hx
      cases hx
      exact ⟨_, hc, ce, hh, hcid, hvm9, fun k hk => absurd hk (Nat.not_lt_zero k)⟩)) (hD.push hP rfl (hA _ hS.1)) ⟨Nat.le_trans hS.1 f1, fun q h1 h2 => (f2 q (Nat.lt_of_lt_of_le h1 hS.1) (fun z hz => nomatch hz)).trans (hS.2.1 q h1 h2), hS.2.2⟩ _ rfl X6
  refine ⟨t, st1 _ ?_, b1⟩
  show Steps p.tables e below (T1.setTop { method := m, pc := pc + 3, locals := ls, stack := .ref T.heap.size :: rest, locked := none }) _
  jvm_step X₁.here [X₁.here.top, hexec, d3', Value.category]
  exact X₁.ldcString hexec (own := own) (text := text) (index := is) (a := sa) hown' hstr'.1 hstr'.2
    (g := { method := m, pc := pc + 4, locals := ls, stack := .ref T.heap.size :: .ref T.heap.size :: rest, locked := none }) rfl d4' _ (st _ a1)
/-- 'new E()' that isn't thrown at once: the object goes on the stack -/
theorem vx_make0 {cc : ByteArray} {pc : Nat} (hexec : p.tables.exec = Jvm.exec) (hb : c.code = cc) (hl : l.stackTraces = false) {own cls : String} {names : List String} {ik ic ci : Nat} {A : Nat → Prop} {T0 : u_T}
    (hown : s.vm.findClass own = some m.cls) (hcls : Bundle.fit cls = true) (hnames : ∀ n ∈ names, Bundle.fit n = true)
    (hk : (Cond.classLink own ik cls).before args s = true) (hini : (Cond.initialized cls).before args s = true) (hat : ∀ w ∈ vx_at0 own ic cls names, w.before args s = true)
    (hgood : ∀ w ∈ Cond.classLink own ik cls :: Cond.initialized cls :: vx_at0 own ic cls names, vx_ot w = true)
    (hU : vx_Zq Bundle.tN "UNASSIGNED_STACK" Bundle.steD A s s.heap) (hN : vx_Zq Bundle.tN "SUPPRESSED_SENTINEL" Bundle.listD A s s.heap) (hS : va_S A s.heap H locs) (hsize : ls.size = c.maxLocals)
    (d0 : decode cc pc = .ok (.new ik, 3)) (d3 : decode cc (pc + 3) = .ok (.dup, 1)) (d4 : decode cc (pc + 4) = .ok (.invokespecial ic, 3))
    (hK : va_K D cl tys s) (hP : va_P D cl ws H) (hD : va_D A ws) (hA : ∀ q, s.heap.size ≤ q → A q) (hc : cl[ci]? = some (cls, T0, 0))
    (hRframes : names.length + 3 < R.frames) (hRlocals : (rest.map fun v => v.category).sum + (13 * (names.length + 1) + 42) ≤ R.locals) (hRcells : cells + 1 ≤ R.cells) (hRslots : slots + 6 ≤ R.slots)
    (kk : ∀ (q : Nat) (H1 : Heap), va_P D cl (ws ++ [(q, .inr (ci, []))]) H1 → va_D A (ws ++ [(q, .inr (ci, []))]) → va_S A s.heap H1 locs → W p l e R s m args below meth c H1 locs (cells + 1) (slots + 6) Q (F0 m (pc + 7) ls (.ref q :: rest))) :
    W p l e R s m args below meth c H locs cells slots Q (F0 m pc ls rest) := by
  intro T hT X
  subst hT
  have htr : e.platform.stackTraces = false := (show e.platform.stackTraces = l.stackTraces by rw [X.admits.platform]).trans hl
  have Y := vx_rebase X (R' := { frames := R.frames, locals := R.locals, cells := 1, slots := 6 }) (Nat.le_refl _) (Nat.le_refl _) hRcells hRslots
  obtain ⟨s', hA'⟩ : ∃ z, z = (T.setVm s.vm).setFrames (.invoking m args :: below) := ⟨_, rfl⟩
  rw [← hA'] at Y
  have hvm : s'.vm = s.vm := by rw [hA']; rfl
  have hhp : s'.heap = T.heap := by rw [hA']; rfl
  have hW0 : s.WarmedH s'.vm := by rw [hvm]; exact State.WarmedH.refl s
  have hat' : ∀ w ∈ vx_at0 own ic cls names, w.before args s' = true := fun w hw => vx_ot_at hW0 hvm.symm (hgood w (List.mem_cons_of_mem _ (List.mem_cons_of_mem _ hw))) (hat w hw)
  have hk' : (Cond.classLink own ik cls).before args s' = true := vx_ot_at hW0 hvm.symm (hgood _ List.mem_cons_self) hk
  have hini' : (Cond.initialized cls).before args s' = true := vx_ot_at hW0 hvm.symm (hgood _ (List.mem_cons_of_mem _ List.mem_cons_self)) hini
  have hU' : vx_Zq Bundle.tN "UNASSIGNED_STACK" Bundle.steD A s' s'.heap := by rw [hhp]; exact vx_Zq.moved hW0.alike (hU.kept hS.2.1)
  have hN' : vx_Zq Bundle.tN "SUPPRESSED_SENTINEL" Bundle.listD A s' s'.heap := by rw [hhp]; exact vx_Zq.moved hW0.alike (hN.kept hS.2.1)
  have h : ∀ w ∈ Bundle.ownAtoms0 own ic cls names, w.before args s' = true := vx_own hat' (vx_isRefq hU'.1) (vx_isRefq hN'.1) hU'.2.word hN'.2.word
  have hown' : s'.vm.findClass own = some m.cls := by rw [hvm]; exact hown
  have hins : (Cond.instantiable cls 6).before args s' = true := h _ (by simp [Bundle.ownAtoms0])
  obtain ⟨vm₁, cX, kX, hfX, hkX, -, -, X₁, st1⟩ := Y.newCold hexec (own := own) (C := cls) (index := ik) (n := 6) hown' hk' hins hini'
    (g := F0 m pc ls rest) rfl (by rw [hb]; exact d0) (Nat.le_refl _) (Nat.le_refl _)
  generalize hT1 : (T.setVm vm₁).pushCell { cls := cX, slots := kX.instanceTypes.map defaultValue, vm := .none } = T1 at X₁ st1
  have hcat : (Value.ref T.heap.size).category = 1 := rfl
  have hcellA : T1.heap[T.heap.size]? = some (freshCell cX kX) := by rw [← hT1]; exact State.heap_pushCell_size _ _
  have d3' : decode c.code (pc + 3) = .ok (.dup, 1) := by rw [hb]; exact d3
  obtain ⟨V, ce, L, Z, hL, hlt, hcl9, hvm9, st⟩ := vx_ctorMade0 X₁ hexec htr (own := own) (cls := cls) (names := names) (ic := ic) hown' hcls hnames h (fun x hx => nomatch hx) hfX hkX hcellA (by rw [hhp]; exact Nat.le_refl _)
    (g := { method := m, pc := pc + 4, locals := ls, stack := .ref T.heap.size :: .ref T.heap.size :: rest, locked := none }) rfl hsize (rest := rest) rfl
    (by rw [hb]; exact d4) hRframes (by simp only [List.map_cons, List.sum_cons, hcat]; omega)
  have Z0 := Stand.forget (locs := []) Z (fun y hy => by rw [hL y hy, hhp]; exact Nat.le_refl _)
  obtain ⟨f1, f2⟩ := vx_frame Z0.same
  rw [hhp] at f1 f2
  have hcid : ce.cls = D.1 ci := by
    rw [hcl9]
    have h1 := (hK.1 ci _ hc).2.1
    rw [hvm] at hfX
    exact Option.some.inj (hfX.symm.trans h1)
  have hh : (V.setCell T.heap.size ce).heap[T.heap.size]? = some ce := heapAt_setCell_self (s := V) ce hlt
  subst hA'
  have X5 := vx_back9 X Y Z0
  have X6 : Stand p l e R s m args below meth c (V.setCell T.heap.size ce) locs (cells + 1) (slots + 6) := { X5 with same := X5.same.mono (by omega) (by omega) }
  have hk9 : ∀ (k : Nat) (x : Nat × va_E), ws[k]? = some x → (V.setCell T.heap.size ce).heap[x.1]? = T.heap[x.1]? := fun k x hx => f2 x.1 ((hP k x hx).lt) (fun z hz => nomatch hz)
  obtain ⟨t, a1, b1⟩ := kk T.heap.size (V.setCell T.heap.size ce).heap ((hP.kept hk9).app (fun k x hx => by
      have hz : k < 1 := (List.getElem?_eq_some_iff.mp hx).1
      rw [show k = 0 by omega] at hx
      cases hx
      exact ⟨_, hc, ce, hh, hcid, hvm9, fun k hk => absurd hk (Nat.not_lt_zero k)⟩)) (hD.push hP rfl (hA _ hS.1)) ⟨Nat.le_trans hS.1 f1, fun q h1 h2 => (f2 q (Nat.lt_of_lt_of_le h1 hS.1) (fun z hz => nomatch hz)).trans (hS.2.1 q h1 h2), hS.2.2⟩ _ rfl X6
  refine ⟨t, st1 _ ?_, b1⟩
  show Steps p.tables e below (T1.setTop { method := m, pc := pc + 3, locals := ls, stack := .ref T.heap.size :: rest, locked := none }) _
  jvm_step X₁.here [X₁.here.top, hexec, d3', Value.category]
  exact st _ a1
/-- 'throw x' of an object that was made before -/
theorem vx_athrow {cc : ByteArray} {pc : Nat} (hexec : p.tables.exec = Jvm.exec) (hb : c.code = cc) {q : Addr} (hdg : decode cc pc = .ok (.athrow, 1)) (k : vx_W p l e R s m args below meth c H locs cells slots Q (F0 m pc ls rest) q) : W p l e R s m args below meth c H locs cells slots Q (F0 m pc ls (.ref q :: rest)) := by
  intro T hT X
  obtain ⟨t, st, hq⟩ := k T hT X
  refine ⟨t, ?_, hq⟩
  have hdg' : decode c.code pc = .ok (.athrow, 1) := by rw [hb]; exact hdg
  jvm_step X.here [X.here.top, hexec, hdg', athrow.wp_sem]
  exact st
end VXK2
/-! ===== END ===== -/
/-! ===== BEGIN a constructor that throws (launches without stack traces) ===== -/
section VXIA
variable {p : Program} {l : Launch} {e : Env} {R : Room} {s : State} {m : MethodId} {args : Array Value} {below : List Frame} {meth : Method} {c : Code} {T : State} {locs : List Loc} {cells slots : Nat}
theorem vx_callI (X : Stand p l e R s m args below meth c T locs cells slots) (hexec : p.tables.exec = Jvm.exec) {own : String} {index : Nat} {y : MethodName} {bytes : ByteArray} {maxL : Nat}
    (hown : s.vm.findClass own = some m.cls) (hy1 : y.name = "<init>") (hlink : (Cond.methodLink own index y).before args s = true) (hinst : (Cond.instanceMethod y).before args s = true)
    (hcode : (Cond.code y bytes maxL none).before args s = true) (hy : y.cls ≠ "java/lang/invoke/MethodHandle" ∧ y.cls ≠ "java/lang/invoke/VarHandle")
    {W9 : Nat} {Pre : Pt → Array Value → Prop} {Post : Pt → Array Value → Option Value → Pt → Prop} {PostX : Pt → Array Value → Addr → Pt → Prop} (hK : vx_Back l R p e below s args y 3 W9 Pre Post PostX)
    {g : JFrame} (hg : g.method = m) (hsize : g.locals.size = c.maxLocals) {a : Addr} {argsL rest : List Value} (hlen : ∀ sig, parseMethodDescriptor y.desc = some sig → argsL.length = sig.parameters.length)
    (hstack : g.stack = argsL.reverse ++ .ref a :: rest) (hW : 2 * g.monitorRoom + (rest.map fun v => v.category).sum ≤ W9) (hdg : decode c.code g.pc = .ok (.invokespecial index, 3))
    (hpre : ∀ vm₁, s.WarmedH vm₁ → Pre ⟨T.setVm vm₁, locs, cells, slots⟩ (Value.ref a :: argsL).toArray) :
    (∃ (v : Option Value) (vm₁ : Vm) (B : Pt), s.WarmedH vm₁ ∧ Stand p l e R s m args below meth c B.U B.locs B.cells B.slots ∧ Post ⟨T.setVm vm₁, locs, cells, slots⟩ (Value.ref a :: argsL).toArray v B ∧
      ∀ target, Steps p.tables e below (B.U.setTop { g with pc := g.pc + 3, stack := v.toList ++ rest }) target → Steps p.tables e below (T.setTop g) target) ∨
    (∃ (q : Addr) (vm₁ : Vm) (B : Pt), s.WarmedH vm₁ ∧ Stand p l e R s m args below meth c B.U B.locs B.cells B.slots ∧ PostX ⟨T.setVm vm₁, locs, cells, slots⟩ (Value.ref a :: argsL).toArray q B ∧
      Steps p.tables e below (T.setTop g) ((B.U.setTop { g with stack := rest }).pushFrame (.throwing q))) := by
  subst hg
  have hpl : e.platform.magicAccessors = ({} : Platform).magicAccessors := by rw [X.admits.platform]
  obtain ⟨mk, methM, cM, kP, vm₁, hnamed, hmethM, hcodeM, -, hlocalsM, -, hkP, -, hW₁, hstep₁⟩ := Steps.initColdArgs (e := e) X.here hexec X.warmed hpl hown hy1 hy hlink hinst hcode (f := g) rfl hlen hstack hdg
  have X₁ := X.noted hW₁
  rcases hK g.method meth c ⟨T.setVm vm₁, locs, cells, slots⟩ { g with stack := rest } (.invokespecial index) mk (Value.ref a :: argsL).toArray X₁ rfl hsize hdg hW (X₁.named hnamed) (hpre vm₁ X₁.warmed) with ⟨v, B, X', hpost, hsteps⟩ | ⟨q, B, X', hpost, hsteps⟩
  · exact Or.inl ⟨v, vm₁, B, X₁.warmed, X', hpost, fun target h => hstep₁ _ fun acts => by rw [doInvoke_state]; exact hsteps.trans h⟩
  · exact Or.inr ⟨q, vm₁, B, X₁.warmed, X', hpost, hstep₁ _ fun acts => by rw [doInvoke_state]; exact hsteps⟩
end VXIA
section VXIB
variable {p : Program} {l : Launch} {e : Env} {R : Room} {s : State} {m : MethodId} {args : Array Value} {below : List Frame} {meth : Method} {c : Code} {H : Heap} {locs : List Loc} {cells slots : Nat}
variable {y : MethodName} {bytes cc : ByteArray} {maxL nL mc ms n index : Nat} {ret : Option FieldType} {ws : List Cond} {rm : Room} {Pc : Array Value → State → Prop} {Qc : Array Value → State → Outcome → State → Prop} {XC : String → State → State → Prop} {free : Addr → Prop} {Ts : List Cond} {own C : String} {b : Addr} {As rest : List Value} {g : JFrame}
theorem vx_runI (S : CallFix p m c cc nL s args Ts own) (hM : vx_Met l y ws rm Pc Qc XC mc ms free) (cw : CallB R s args own index y bytes maxL none ws rm mc ms n ∧ y.name = "<init>" ∧ (Cond.instanceMethod y).before args s = true) (hp : PreS s H Pc (.ref b :: As))
    (hg : g.method = m) (hn : As.length = n) (hsize : g.locals.size = nL) (hstack : g.stack = As.reverse ++ .ref b :: rest) (hW : 2 * g.monitorRoom + (rest.map fun v => v.category).sum ≤ 8) (hdg : decode cc g.pc = .ok (.invokespecial index, 3)) (hf : cells + mc ≤ R.cells ∧ slots + ms ≤ R.slots) :
    vx_Run p l e R s m args below meth c H locs cells slots mc ms g rest (Qc (Value.ref b :: As).toArray) XC free := by
  have hK : vx_Back l R p e below s args y 3 8 (PreOf R mc ms Pc) (PostOf Qc mc ms free) (vx_Post XC mc ms free) := vx_callBack cw.1 hM hp.1
  obtain ⟨⟨-, -, -, -, -, -, hcode, -, hy, hlen, hl⟩, hy1, hin⟩ := cw
  obtain ⟨hx, hb, hml, ho, -⟩ := S
  have hPc := hp.2
  intro T hT X
  rcases vx_callI X hx (bytes := bytes) (maxL := maxL) ho hy1 hl hin hcode hy hK hg (hsize.trans hml.symm) (a := b) (argsL := As) (rest := rest) (fun sig h => hn.trans (hlen sig h)) hstack hW (by rw [hb]; exact hdg)
    (fun vm₁ hW₁ => ⟨hf.1, hf.2, hPc (T.setVm vm₁) hT hW₁⟩) with ⟨v, vm₁, ⟨U', l2, c2, s2⟩, hW₁, X', ⟨g', mk, t, L, e1, e2, hq, h1, hL, h2, h3⟩, st⟩ | ⟨q, vm₁, ⟨U', l2, c2, s2⟩, hW₁, X', ⟨g', mk, t, L, E, ce, e1, e2, hq, hce, hcv, hcl, h1, hL, h2, h3⟩, st⟩
  · dsimp only [Pt.U, Pt.locs, Pt.cells, Pt.slots] at X' e1 e2 h1 h2 h3 st
    subst h1; subst h2; subst h3
    exact Or.inl ⟨v, (T.setVm vm₁).calling g' mk (Value.ref b :: As).toArray, t, U', L, hT, X', hL, e1, e2, hq, st⟩
  · dsimp only [Pt.U, Pt.locs, Pt.cells, Pt.slots] at X' e1 e2 h1 h2 h3 st hcl
    subst h1; subst h2; subst h3
    exact Or.inr ⟨q, (T.setVm vm₁).calling g' mk (Value.ref b :: As).toArray, t, U', L, E, ce, hT, X', hL, e1, e2, hq, hce, hcv, vx_cls hW₁ hcl, st⟩
end VXIB
/-! ===== END ===== -/
/-! ===== BEGIN a private constructor of a nest mate that throws ===== -/
section VXIC
variable {p : Program} {l : Launch} {e : Env} {R : Room} {s : State} {m : MethodId} {args : Array Value} {below : List Frame} {meth : Method} {c : Code} {T : State} {locs : List Loc} {cells slots : Nat}
theorem vx_callIN (X : Stand p l e R s m args below meth c T locs cells slots) (hexec : p.tables.exec = Jvm.exec) {own : String} {index : Nat} {host : String} {y : MethodName} {bytes : ByteArray} {maxL : Nat}
    (hown : s.vm.findClass own = some m.cls) (hy1 : y.name = "<init>") (hlink : (Cond.methodLinkNest own index y host).before args s = true) (hinst : (Cond.instanceMethod y).before args s = true)
    (hcode : (Cond.code y bytes maxL none).before args s = true) (hy : y.cls ≠ "java/lang/invoke/MethodHandle" ∧ y.cls ≠ "java/lang/invoke/VarHandle")
    {W9 : Nat} {Pre : Pt → Array Value → Prop} {Post : Pt → Array Value → Option Value → Pt → Prop} {PostX : Pt → Array Value → Addr → Pt → Prop} (hK : vx_Back l R p e below s args y 3 W9 Pre Post PostX)
    {g : JFrame} (hg : g.method = m) (hsize : g.locals.size = c.maxLocals) {a : Addr} {argsL rest : List Value} (hlen : ∀ sig, parseMethodDescriptor y.desc = some sig → argsL.length = sig.parameters.length)
    (hstack : g.stack = argsL.reverse ++ .ref a :: rest) (hW : 2 * g.monitorRoom + (rest.map fun v => v.category).sum ≤ W9) (hdg : decode c.code g.pc = .ok (.invokespecial index, 3))
    (hpre : ∀ vm₁, s.WarmedH vm₁ → Pre ⟨T.setVm vm₁, locs, cells, slots⟩ (Value.ref a :: argsL).toArray) :
    (∃ (v : Option Value) (vm₁ : Vm) (B : Pt), s.WarmedH vm₁ ∧ Stand p l e R s m args below meth c B.U B.locs B.cells B.slots ∧ Post ⟨T.setVm vm₁, locs, cells, slots⟩ (Value.ref a :: argsL).toArray v B ∧
      ∀ target, Steps p.tables e below (B.U.setTop { g with pc := g.pc + 3, stack := v.toList ++ rest }) target → Steps p.tables e below (T.setTop g) target) ∨
    (∃ (q : Addr) (vm₁ : Vm) (B : Pt), s.WarmedH vm₁ ∧ Stand p l e R s m args below meth c B.U B.locs B.cells B.slots ∧ PostX ⟨T.setVm vm₁, locs, cells, slots⟩ (Value.ref a :: argsL).toArray q B ∧
      Steps p.tables e below (T.setTop g) ((B.U.setTop { g with stack := rest }).pushFrame (.throwing q))) := by
  subst hg
  have hpl : e.platform.magicAccessors = ({} : Platform).magicAccessors := by rw [X.admits.platform]
  obtain ⟨mk, methM, cM, kP, vm₁, hnamed, hmethM, hcodeM, -, hlocalsM, -, hkP, -, hW₁, hstep₁⟩ := Steps.initColdArgsNest (e := e) X.here hexec X.warmed hpl hown hy1 hy hlink hinst hcode (f := g) rfl hlen hstack hdg
  have X₁ := X.noted hW₁
  rcases hK g.method meth c ⟨T.setVm vm₁, locs, cells, slots⟩ { g with stack := rest } (.invokespecial index) mk (Value.ref a :: argsL).toArray X₁ rfl hsize hdg hW (X₁.named hnamed) (hpre vm₁ X₁.warmed) with ⟨v, B, X', hpost, hsteps⟩ | ⟨q, B, X', hpost, hsteps⟩
  · exact Or.inl ⟨v, vm₁, B, X₁.warmed, X', hpost, fun target h => hstep₁ _ fun acts => by rw [doInvoke_state]; exact hsteps.trans h⟩
  · exact Or.inr ⟨q, vm₁, B, X₁.warmed, X', hpost, hstep₁ _ fun acts => by rw [doInvoke_state]; exact hsteps⟩
end VXIC
section VXID
variable {p : Program} {l : Launch} {e : Env} {R : Room} {s : State} {m : MethodId} {args : Array Value} {below : List Frame} {meth : Method} {c : Code} {H : Heap} {locs : List Loc} {cells slots : Nat}
theorem vx_runIN {y : MethodName} {bytes cc : ByteArray} {maxL nL mc ms n index : Nat} {ws : List Cond} {rm : Room} {Pc : Array Value → State → Prop} {Qc : Array Value → State → Outcome → State → Prop} {XC : String → State → State → Prop} {free : Addr → Prop} {Ts : List Cond} {own host : String} {b : Addr} {As rest : List Value} {g : JFrame}
    (S : CallFix p m c cc nL s args Ts own) (hM : vx_Met l y ws rm Pc Qc XC mc ms free) (cw : va_CN R s args own index y host bytes maxL none ws rm mc ms n ∧ y.name = "<init>" ∧ (Cond.instanceMethod y).before args s = true) (hp : PreS s H Pc (.ref b :: As))
    (hg : g.method = m) (hn : As.length = n) (hsize : g.locals.size = nL) (hstack : g.stack = As.reverse ++ .ref b :: rest) (hW : 2 * g.monitorRoom + (rest.map fun v => v.category).sum ≤ 8) (hdg : decode cc g.pc = .ok (.invokespecial index, 3)) (hf : cells + mc ≤ R.cells ∧ slots + ms ≤ R.slots) :
    vx_Run p l e R s m args below meth c H locs cells slots mc ms g rest (Qc (Value.ref b :: As).toArray) XC free := by
  obtain ⟨⟨⟨hrc, hrs, hfr, hlo, hws, hcw⟩, hcode, hini, hy, hlen, hl⟩, hx1, hx2⟩ := cw
  have hK : vx_Back l R p e below s args y 3 8 (PreOf R mc ms Pc) (PostOf Qc mc ms free) (vx_Post XC mc ms free) := vx_back (bytes := bytes) (maxL := maxL) (ret := none) hM hp.1 hrc hrs hfr hlo hws hcw (fun a' U hW => word_at hW (Or.inl (by first | rfl | simp [Cond.onTables, Cond.keeps, Cond.steady])) hini)
  obtain ⟨hx, hb, hml, ho, -⟩ := S
  have hPc := hp.2
  intro T hT X
  rcases vx_callIN X hx (bytes := bytes) (maxL := maxL) ho hx1 hl hx2 hcode hy hK hg (hsize.trans hml.symm) (a := b) (argsL := As) (rest := rest) (fun sig h => hn.trans (hlen sig h)) hstack hW (by rw [hb]; exact hdg)
    (fun vm₁ hW₁ => ⟨hf.1, hf.2, hPc (T.setVm vm₁) hT hW₁⟩) with ⟨v, vm₁, ⟨U', l2, c2, s2⟩, hW₁, X', ⟨g', mk, t, L, e1, e2, hq, h1, hL, h2, h3⟩, st⟩ | ⟨q, vm₁, ⟨U', l2, c2, s2⟩, hW₁, X', ⟨g', mk, t, L, E, ce, e1, e2, hq, hce, hcv, hcl, h1, hL, h2, h3⟩, st⟩
  · dsimp only [Pt.U, Pt.locs, Pt.cells, Pt.slots] at X' e1 e2 h1 h2 h3 st
    subst h1; subst h2; subst h3
    exact Or.inl ⟨v, (T.setVm vm₁).calling g' mk (Value.ref b :: As).toArray, t, U', L, hT, X', hL, e1, e2, hq, st⟩
  · dsimp only [Pt.U, Pt.locs, Pt.cells, Pt.slots] at X' e1 e2 h1 h2 h3 st hcl
    subst h1; subst h2; subst h3
    exact Or.inr ⟨q, (T.setVm vm₁).calling g' mk (Value.ref b :: As).toArray, t, U', L, E, ce, hT, X', hL, e1, e2, hq, hce, hcv, vx_cls hW₁ hcl, st⟩
end VXID
/-! ===== END ===== -/
/-! ===== BEGIN a method of a class above, found by the receiver, that may throw (follows va_callVU, va_runU of this kit) ===== -/
section
variable {p : Program} {l : Launch} {e : Env} {R : Room} {s : State} {m : MethodId} {args : Array Value} {below : List Frame} {meth : Method} {c : Code} {H : Heap} {locs : List Loc} {cells slots : Nat}
theorem vx_callVU {T : State} {locs : List Loc} {cells slots : Nat} (X : Stand p l e R s m args below meth c T locs cells slots) (hexec : p.tables.exec = Jvm.exec) {own C owner : String} {index : Nat} {x y : MethodName} {bytes : ByteArray} {maxL : Nat} {ret : Option FieldType}
    (hown : s.vm.findClass own = some m.cls) (hlink : (Cond.methodLink own index x).before args s = true) (hsame : (Cond.sameMethod x.cls owner x.name x.desc).before args s = true)
    (hd0 : va_Decl s ⟨owner, x.name, x.desc⟩) (howner : owner ≠ "java/lang/invoke/MethodHandle" ∧ owner ≠ "java/lang/invoke/VarHandle")
    (hsel : (Cond.selects C x y).before args s = true) (hinst : (Cond.instanceMethod y).before args s = true) (hcode : (Cond.code y bytes maxL ret).before args s = true)
    {W : Nat} {Pre : Pt → Array Value → Prop} {Post : Pt → Array Value → Option Value → Pt → Prop} {PostX : Pt → Array Value → Addr → Pt → Prop} (hK : vx_Back l R p e below s args y 3 W Pre Post PostX)
    {b : Addr} {cellB : Cell} (hcell : T.heap[b]? = some cellB) (hobj : cellB.vm.isStatics = false) (hcls : s.vm.findClass C = some cellB.cls)
    {g : JFrame} (hg : g.method = m) (hsize : g.locals.size = c.maxLocals) {argsL rest : List Value} (hlen : ∀ sig, parseMethodDescriptor x.desc = some sig → argsL.length = sig.parameters.length)
    (hstack : g.stack = argsL.reverse ++ .ref b :: rest) (hW : 2 * g.monitorRoom + (rest.map fun v => v.category).sum ≤ W) (hdg : decode c.code g.pc = .ok (.invokevirtual index, 3))
    (hpre : ∀ vm₁, s.WarmedH vm₁ → Pre ⟨T.setVm vm₁, locs, cells, slots⟩ (Value.ref b :: argsL).toArray) :
    (∃ (v : Option Value) (vm₁ : Vm) (B : Pt), s.WarmedH vm₁ ∧ Stand p l e R s m args below meth c B.U B.locs B.cells B.slots ∧ Post ⟨T.setVm vm₁, locs, cells, slots⟩ (Value.ref b :: argsL).toArray v B ∧
      ∀ target, Steps p.tables e below (B.U.setTop { g with pc := g.pc + 3, stack := v.toList ++ rest }) target → Steps p.tables e below (T.setTop g) target) ∨
    (∃ (q : Addr) (vm₁ : Vm) (B : Pt), s.WarmedH vm₁ ∧ Stand p l e R s m args below meth c B.U B.locs B.cells B.slots ∧ PostX ⟨T.setVm vm₁, locs, cells, slots⟩ (Value.ref b :: argsL).toArray q B ∧
      Steps p.tables e below (T.setTop g) ((B.U.setTop { g with stack := rest }).pushFrame (.throwing q))) := by
  obtain ⟨r0, r, hn, hrm, hstR, hsigR⟩ := hd0
  obtain ⟨cn, ck, r1, hcn, hck, hni, hf, hn1⟩ := Cond.sameMethod_found hsame
  cases hn.symm.trans hn1
  obtain ⟨mk, methM, hnamed, hmethM, -, habM⟩ := Cond.instanceMethod_spec hinst
  obtain ⟨c2, r2, m2, q1, q2, q3, q4, kP, hkP, hkPi⟩ := Cond.selects_spec hsel
  cases hcls.symm.trans q1
  cases hf.symm.trans q2
  cases hnamed.symm.trans q3
  have hselP : selectMethod e.platform s.vm cellB.cls r0 = .method mk := by rw [Launch.admits_selectMethod X.admits]; exact q4
  obtain ⟨vm₁, X₁, hstep₁⟩ := X.invokevirtualUp hexec hown hlink hsame howner hn hrm hstR (a := b) (cell := cellB) hcell
    (fun z h => by rw [h] at hobj; cases hobj) hselP hmethM habM hkP hkPi (g := g) hg (argsL := argsL) (rest := rest) (hlen _ hsigR) hstack hdg
  rcases hK m meth c ⟨T.setVm vm₁, locs, cells, slots⟩ { g with stack := rest } (.invokevirtual index) mk (Value.ref b :: argsL).toArray X₁ hg hsize hdg hW (X₁.named hnamed) (hpre vm₁ X₁.warmed) with ⟨v, B, X', hpost, hsteps⟩ | ⟨q, B, X', hpost, hsteps⟩
  · exact Or.inl ⟨v, vm₁, B, X₁.warmed, X', hpost, fun target h => hstep₁ _ fun acts => by rw [doInvoke_state]; exact hsteps.trans h⟩
  · exact Or.inr ⟨q, vm₁, B, X₁.warmed, X', hpost, hstep₁ _ fun acts => by rw [doInvoke_state]; exact hsteps⟩
theorem vx_runU {x y : MethodName} {bytes cc : ByteArray} {maxL nL mc ms n index : Nat} {ret : Option FieldType} {ws : List Cond} {rm : Room} {Pc : Array Value → State → Prop} {Qc : Array Value → State → Outcome → State → Prop} {XC : String → State → State → Prop} {free : Addr → Prop} {Ts : List Cond} {own C owner : String} {b : Addr} {As rest : List Value} {g : JFrame}
    (S : CallFix p m c cc nL s args Ts own) (hM : vx_Met l y ws rm Pc Qc XC mc ms free) (cw : va_CU R s args own C owner index x y bytes maxL ret ws rm mc ms n) (hp : PreV s H C b Pc As)
    (hg : g.method = m) (hn : As.length = n) (hsize : g.locals.size = nL) (hstack : g.stack = As.reverse ++ .ref b :: rest) (hW : 2 * g.monitorRoom + (rest.map fun v => v.category).sum ≤ 8) (hdg : decode cc g.pc = .ok (.invokevirtual index, 3)) (hf : cells + mc ≤ R.cells ∧ slots + ms ≤ R.slots) :
    vx_Run p l e R s m args below meth c H locs cells slots mc ms g rest (Qc (Value.ref b :: As).toArray) XC free := by
  obtain ⟨hrc, hrs, hfr, hlo, hws, hcw⟩ := cw.back
  have hini := cw.init
  have hK : vx_Back l R p e below s args y 3 8 (PreOf R mc ms Pc) (PostOf Qc mc ms free) (vx_Post XC mc ms free) := vx_back (bytes := bytes) (maxL := maxL) (ret := ret) hM hp.1 hrc hrs hfr hlo hws hcw (fun a' U hW => word_at hW (Or.inl (by first | rfl | simp [Cond.onTables, Cond.keeps, Cond.steady])) hini)
  obtain ⟨hx, hb, hml, ho, -⟩ := S
  obtain ⟨-, ⟨cellB, hcB, hoB, hclB⟩, hPc⟩ := hp
  intro T hT X
  rcases vx_callVU X hx (C := C) (owner := owner) (bytes := bytes) (maxL := maxL) (ret := ret) ho cw.link cw.same cw.decl cw.notMH cw.sel cw.inst cw.code hK (by rw [hT]; exact hcB) hoB hclB hg (hsize.trans hml.symm) (argsL := As) (rest := rest) (fun sig h => hn.trans (cw.len sig h)) hstack hW (by rw [hb]; exact hdg)
    (fun vm₁ hW₁ => ⟨hf.1, hf.2, hPc (T.setVm vm₁) hT hW₁⟩) with ⟨v, vm₁, ⟨U', l2, c2, s2⟩, hW₁, X', ⟨g', mk, t, L, e1, e2, hq, h1, hL, h2, h3⟩, st⟩ | ⟨q, vm₁, ⟨U', l2, c2, s2⟩, hW₁, X', ⟨g', mk, t, L, E, ce, e1, e2, hq, hce, hcv, hcl, h1, hL, h2, h3⟩, st⟩
  · dsimp only [Pt.U, Pt.locs, Pt.cells, Pt.slots] at X' e1 e2 h1 h2 h3 st
    subst h1; subst h2; subst h3
    exact Or.inl ⟨v, (T.setVm vm₁).calling g' mk (Value.ref b :: As).toArray, t, U', L, hT, X', hL, e1, e2, hq, st⟩
  · dsimp only [Pt.U, Pt.locs, Pt.cells, Pt.slots] at X' e1 e2 h1 h2 h3 st hcl
    subst h1; subst h2; subst h3
    exact Or.inr ⟨q, (T.setVm vm₁).calling g' mk (Value.ref b :: As).toArray, t, U', L, E, ce, hT, X', hL, e1, e2, hq, hce, hcv, vx_cls hW₁ hcl, st⟩
end
/-! ===== END ===== -/
/-! ===== BEGIN super.m(..) that may throw (follows va_callSU, va_runSU) ===== -/
section
variable {p : Program} {l : Launch} {e : Env} {R : Room} {s : State} {m : MethodId} {args : Array Value} {below : List Frame} {meth : Method} {c : Code} {H : Heap} {locs : List Loc} {cells slots : Nat}
theorem vx_callSU {T : State} {locs : List Loc} {cells slots : Nat} (X : Stand p l e R s m args below meth c T locs cells slots) (hexec : p.tables.exec = Jvm.exec) {own : String} {index : Nat} {y : MethodName} {bytes : ByteArray} {maxL : Nat} {ret : Option FieldType}
    (hown : s.vm.findClass own = some m.cls) (hlink : (Cond.methodLink own index y).before args s = true) (hsame : (Cond.sameMethod y.cls y.cls y.name y.desc).before args s = true) (hsup : (Cond.superclass own y.cls).before args s = true)
    (hinst : (Cond.instanceMethod y).before args s = true) (hcode : (Cond.code y bytes maxL ret).before args s = true) (hno : y.name ≠ "<init>")
    {W : Nat} {Pre : Pt → Array Value → Prop} {Post : Pt → Array Value → Option Value → Pt → Prop} {PostX : Pt → Array Value → Addr → Pt → Prop} (hK : vx_Back l R p e below s args y 3 W Pre Post PostX)
    {b : Addr} {cellB : Cell} {kB : Class} (hcell : T.heap[b]? = some cellB) (hobj : cellB.vm.isStatics = false) (hkB : s.vm.classes[cellB.cls]? = some kB)
    {g : JFrame} (hg : g.method = m) (hsize : g.locals.size = c.maxLocals) {argsL rest : List Value} (hlen : ∀ sig, parseMethodDescriptor y.desc = some sig → argsL.length = sig.parameters.length)
    (hstack : g.stack = argsL.reverse ++ .ref b :: rest) (hW : 2 * g.monitorRoom + (rest.map fun v => v.category).sum ≤ W) (hdg : decode c.code g.pc = .ok (.invokespecial index, 3))
    (hpre : ∀ vm₁, s.WarmedH vm₁ → Pre ⟨T.setVm vm₁, locs, cells, slots⟩ (Value.ref b :: argsL).toArray) :
    (∃ (v : Option Value) (vm₁ : Vm) (B : Pt), s.WarmedH vm₁ ∧ Stand p l e R s m args below meth c B.U B.locs B.cells B.slots ∧ Post ⟨T.setVm vm₁, locs, cells, slots⟩ (Value.ref b :: argsL).toArray v B ∧
      ∀ target, Steps p.tables e below (B.U.setTop { g with pc := g.pc + 3, stack := v.toList ++ rest }) target → Steps p.tables e below (T.setTop g) target) ∨
    (∃ (q : Addr) (vm₁ : Vm) (B : Pt), s.WarmedH vm₁ ∧ Stand p l e R s m args below meth c B.U B.locs B.cells B.slots ∧ PostX ⟨T.setVm vm₁, locs, cells, slots⟩ (Value.ref b :: argsL).toArray q B ∧
      Steps p.tables e below (T.setTop g) ((B.U.setTop { g with stack := rest }).pushFrame (.throwing q))) := by
  obtain ⟨mk, methM, hnamed, hmethM, hstM, habM⟩ := Cond.instanceMethod_spec hinst
  obtain ⟨methM', cM, hmethM', -, -, -, -, -, -, hsigM⟩ := Cond.code_spec hnamed hcode
  cases hmethM.symm.trans hmethM'
  obtain ⟨ps, dk, kp, hps, hdk, hkp, hsuper, -, -, hnid⟩ := Cond.superclass_spec hown hsup
  have hn : s.methodNamed? ⟨y.cls, y.name, y.desc⟩ = some mk := hnamed
  have hpm : ps = mk.cls := Option.some.inj (hps.symm.trans (findClass_of_methodNamed hnamed))
  have hsub : s.vm.isSubclass ps mk.cls = true := by rw [hpm]; simp [Vm.isSubclass, Vm.isSubclassAux]
  obtain ⟨vm₁, X₁, hstep₁⟩ := X.invokespecialUp hexec hown hlink hsame hn hmethM hstM habM hno hdk hnid hps hsuper hsub (a := b) (cell := cellB) hcell
    (fun z h => by rw [h] at hobj; cases hobj) hkB (g := g) hg (argsL := argsL) (rest := rest) (hlen _ hsigM) hstack hdg
  rcases hK m meth c ⟨T.setVm vm₁, locs, cells, slots⟩ { g with stack := rest } (.invokespecial index) mk (Value.ref b :: argsL).toArray X₁ hg hsize hdg hW (X₁.named hnamed) (hpre vm₁ X₁.warmed) with ⟨v, B, X', hpost, hsteps⟩ | ⟨q, B, X', hpost, hsteps⟩
  · exact Or.inl ⟨v, vm₁, B, X₁.warmed, X', hpost, fun target h => hstep₁ _ (by rw [doInvoke_state]; exact hsteps.trans h)⟩
  · exact Or.inr ⟨q, vm₁, B, X₁.warmed, X', hpost, hstep₁ _ (by rw [doInvoke_state]; exact hsteps)⟩
theorem vx_runSU {y : MethodName} {bytes cc : ByteArray} {maxL nL mc ms n index : Nat} {ret : Option FieldType} {ws : List Cond} {rm : Room} {Pc : Array Value → State → Prop} {Qc : Array Value → State → Outcome → State → Prop} {XC : String → State → State → Prop} {free : Addr → Prop} {Ts : List Cond} {own C : String} {cC : ClassId} {b : Addr} {As rest : List Value} {g : JFrame}
    (hat : ClassAt s C cC) (S : CallFix p m c cc nL s args Ts own) (hM : vx_Met l y ws rm Pc Qc XC mc ms free) (cw : va_CS R s args own index y bytes maxL ret ws rm mc ms n) (hp : PreV s H C b Pc As)
    (hg : g.method = m) (hn : As.length = n) (hsize : g.locals.size = nL) (hstack : g.stack = As.reverse ++ .ref b :: rest) (hW : 2 * g.monitorRoom + (rest.map fun v => v.category).sum ≤ 8) (hdg : decode cc g.pc = .ok (.invokespecial index, 3)) (hf : cells + mc ≤ R.cells ∧ slots + ms ≤ R.slots) :
    vx_Run p l e R s m args below meth c H locs cells slots mc ms g rest (Qc (Value.ref b :: As).toArray) XC free := by
  obtain ⟨⟨hrc, hrs, hfr, hlo, hws, hcw⟩, hl1, hl2, hl3, hl4, hini, hcode, hno, hlen⟩ := cw
  have hK : vx_Back l R p e below s args y 3 8 (PreOf R mc ms Pc) (PostOf Qc mc ms free) (vx_Post XC mc ms free) := vx_back (bytes := bytes) (maxL := maxL) (ret := ret) hM hp.1 hrc hrs hfr hlo hws hcw (fun a' U hW => word_at hW (Or.inl (by first | rfl | simp [Cond.onTables, Cond.keeps, Cond.steady])) hini)
  obtain ⟨hx, hb, hml, ho, -⟩ := S
  obtain ⟨-, ⟨cellB, hcB, hoB, hclB⟩, hPc⟩ := hp
  obtain ⟨hfc, kB, hkB, -⟩ := hat
  cases hfc.symm.trans hclB
  intro T hT X
  rcases vx_callSU X hx (bytes := bytes) (maxL := maxL) (ret := ret) ho hl1 hl2 hl3 hl4 hcode hno hK (by rw [hT]; exact hcB) hoB hkB hg (hsize.trans hml.symm) (argsL := As) (rest := rest) (fun sig h => hn.trans (hlen sig h)) hstack hW (by rw [hb]; exact hdg)
    (fun vm₁ hW₁ => ⟨hf.1, hf.2, hPc (T.setVm vm₁) hT hW₁⟩) with ⟨v, vm₁, ⟨U', l2, c2, s2⟩, hW₁, X', ⟨g', mk, t, L, e1, e2, hq, h1, hL, h2, h3⟩, st⟩ | ⟨q, vm₁, ⟨U', l2, c2, s2⟩, hW₁, X', ⟨g', mk, t, L, E, ce, e1, e2, hq, hce, hcv, hcl, h1, hL, h2, h3⟩, st⟩
  · dsimp only [Pt.U, Pt.locs, Pt.cells, Pt.slots] at X' e1 e2 h1 h2 h3 st
    subst h1; subst h2; subst h3
    exact Or.inl ⟨v, (T.setVm vm₁).calling g' mk (Value.ref b :: As).toArray, t, U', L, hT, X', hL, e1, e2, hq, st⟩
  · dsimp only [Pt.U, Pt.locs, Pt.cells, Pt.slots] at X' e1 e2 h1 h2 h3 st hcl
    subst h1; subst h2; subst h3
    exact Or.inr ⟨q, (T.setVm vm₁).calling g' mk (Value.ref b :: As).toArray, t, U', L, E, ce, hT, X', hL, e1, e2, hq, hce, hcv, vx_cls hW₁ hcl, st⟩
end
/-! ===== END ===== -/
/-! ===== BEGIN a private method of a nest mate that may throw (follows va_callVN, va_callSN, va_runVN, va_runSN) ===== -/
section
variable {p : Program} {l : Launch} {e : Env} {R : Room} {s : State} {m : MethodId} {args : Array Value} {below : List Frame} {meth : Method} {c : Code} {H : Heap} {locs : List Loc} {cells slots : Nat}
variable {T : State}
theorem vx_callVN (X : Stand p l e R s m args below meth c T locs cells slots) (hexec : p.tables.exec = Jvm.exec) {own C : String} {index : Nat} {host : String} {y : MethodName} {bytes : ByteArray} {maxL : Nat} {ret : Option FieldType}
    (hown : s.vm.findClass own = some m.cls) (hlink : (Cond.methodLinkNest own index y host).before args s = true) (hinst : (Cond.instanceMethod y).before args s = true) (hsel : (Cond.selects C y y).before args s = true)
    (hcode : (Cond.code y bytes maxL ret).before args s = true) (hy : y.cls ≠ "java/lang/invoke/MethodHandle" ∧ y.cls ≠ "java/lang/invoke/VarHandle")
    {W : Nat} {Pre : Pt → Array Value → Prop} {Post : Pt → Array Value → Option Value → Pt → Prop} {PostX : Pt → Array Value → Addr → Pt → Prop} (hK : vx_Back l R p e below s args y 3 W Pre Post PostX)
    {b : Addr} {cellB : Cell} (hcell : T.heap[b]? = some cellB) (hobj : cellB.vm.isStatics = false) (hcls : s.vm.findClass C = some cellB.cls)
    {g : JFrame} (hg : g.method = m) (hsize : g.locals.size = c.maxLocals) {argsL rest : List Value} (hlen : ∀ sig, parseMethodDescriptor y.desc = some sig → argsL.length = sig.parameters.length)
    (hstack : g.stack = argsL.reverse ++ .ref b :: rest) (hW : 2 * g.monitorRoom + (rest.map fun v => v.category).sum ≤ W) (hdg : decode c.code g.pc = .ok (.invokevirtual index, 3))
    (hpre : ∀ vm₁, s.WarmedH vm₁ → Pre ⟨T.setVm vm₁, locs, cells, slots⟩ (Value.ref b :: argsL).toArray) :
    (∃ (v : Option Value) (vm₁ : Vm) (B : Pt), s.WarmedH vm₁ ∧ Stand p l e R s m args below meth c B.U B.locs B.cells B.slots ∧ Post ⟨T.setVm vm₁, locs, cells, slots⟩ (Value.ref b :: argsL).toArray v B ∧
      ∀ target, Steps p.tables e below (B.U.setTop { g with pc := g.pc + 3, stack := v.toList ++ rest }) target → Steps p.tables e below (T.setTop g) target) ∨
    (∃ (q : Addr) (vm₁ : Vm) (B : Pt), s.WarmedH vm₁ ∧ Stand p l e R s m args below meth c B.U B.locs B.cells B.slots ∧ PostX ⟨T.setVm vm₁, locs, cells, slots⟩ (Value.ref b :: argsL).toArray q B ∧
      Steps p.tables e below (T.setTop g) ((B.U.setTop { g with stack := rest }).pushFrame (.throwing q))) := by
  obtain ⟨mk, methM, hnamed, hmethM, hstM, habM⟩ := Cond.instanceMethod_spec hinst
  obtain ⟨methM', cM, hmethM', -, -, -, -, -, -, hsigM⟩ := Cond.code_spec hnamed hcode
  cases hmethM.symm.trans hmethM'
  obtain ⟨c2, r2, m2, q1, q2, q3, q4, kP, hkP, hkPi⟩ := Cond.selects_spec hsel
  cases hcls.symm.trans q1
  cases (State.methodFound?_of_named hnamed hy).symm.trans q2
  cases hnamed.symm.trans q3
  have hselP : selectMethod e.platform s.vm cellB.cls mk = .method mk := by rw [Launch.admits_selectMethod X.admits]; exact q4
  obtain ⟨vm₁, X₁, hstep₁⟩ := X.invokevirtualNest hexec hown hlink hnamed hmethM hstM hkP hkPi hy (a := b) (cell := cellB) hcell
    (fun z h => by rw [h] at hobj; cases hobj) hselP hmethM habM hkP hkPi (g := g) hg (argsL := argsL) (rest := rest) (hlen _ hsigM) hstack hdg
  rcases hK m meth c ⟨T.setVm vm₁, locs, cells, slots⟩ { g with stack := rest } (.invokevirtual index) mk (Value.ref b :: argsL).toArray X₁ hg hsize hdg hW (X₁.named hnamed) (hpre vm₁ X₁.warmed) with ⟨v, B, X', hpost, hsteps⟩ | ⟨q, B, X', hpost, hsteps⟩
  · exact Or.inl ⟨v, vm₁, B, X₁.warmed, X', hpost, fun target h => hstep₁ _ fun acts => by rw [doInvoke_state]; exact hsteps.trans h⟩
  · exact Or.inr ⟨q, vm₁, B, X₁.warmed, X', hpost, hstep₁ _ fun acts => by rw [doInvoke_state]; exact hsteps⟩
theorem vx_callSN (X : Stand p l e R s m args below meth c T locs cells slots) (hexec : p.tables.exec = Jvm.exec) {own : String} {index : Nat} {host : String} {y : MethodName} {bytes : ByteArray} {maxL : Nat} {ret : Option FieldType}
    (hown : s.vm.findClass own = some m.cls) (hlink : (Cond.methodLinkNest own index y host).before args s = true) (hstat : (Cond.static y).before args s = true) (hinit : (Cond.initialized y.cls).before args s = true)
    (hcode : (Cond.code y bytes maxL ret).before args s = true) (hy : y.cls ≠ "java/lang/invoke/MethodHandle" ∧ y.cls ≠ "java/lang/invoke/VarHandle")
    {W : Nat} {Pre : Pt → Array Value → Prop} {Post : Pt → Array Value → Option Value → Pt → Prop} {PostX : Pt → Array Value → Addr → Pt → Prop} (hK : vx_Back l R p e below s args y 3 W Pre Post PostX)
    {g : JFrame} (hg : g.method = m) (hsize : g.locals.size = c.maxLocals) {argsL rest : List Value} (hlen : ∀ sig, parseMethodDescriptor y.desc = some sig → argsL.length = sig.parameters.length)
    (hstack : g.stack = argsL.reverse ++ rest) (hW : 2 * g.monitorRoom + (rest.map fun v => v.category).sum ≤ W) (hdg : decode c.code g.pc = .ok (.invokestatic index, 3))
    (hpre : ∀ vm₁, s.WarmedH vm₁ → Pre ⟨T.setVm vm₁, locs, cells, slots⟩ argsL.toArray) :
    (∃ (v : Option Value) (vm₁ : Vm) (B : Pt), s.WarmedH vm₁ ∧ Stand p l e R s m args below meth c B.U B.locs B.cells B.slots ∧ Post ⟨T.setVm vm₁, locs, cells, slots⟩ argsL.toArray v B ∧
      ∀ target, Steps p.tables e below (B.U.setTop { g with pc := g.pc + 3, stack := v.toList ++ rest }) target → Steps p.tables e below (T.setTop g) target) ∨
    (∃ (q : Addr) (vm₁ : Vm) (B : Pt), s.WarmedH vm₁ ∧ Stand p l e R s m args below meth c B.U B.locs B.cells B.slots ∧ PostX ⟨T.setVm vm₁, locs, cells, slots⟩ argsL.toArray q B ∧
      Steps p.tables e below (T.setTop g) ((B.U.setTop { g with stack := rest }).pushFrame (.throwing q))) := by
  obtain ⟨mk, hnamed⟩ := Cond.code_named hcode
  obtain ⟨methM, cM, hmethM, -, -, -, -, -, -, hsigM⟩ := Cond.code_spec hnamed hcode
  have hstatic : methM.isStatic = true := Cond.static_spec hnamed hmethM hstat
  obtain ⟨kP, hkP, -⟩ := className_of_methodNamed hnamed
  have hinitP : kP.init = .initialized := Cond.initialized_spec (findClass_of_methodNamed hnamed) hkP hinit
  obtain ⟨vm₁, X₁, hstep₁⟩ := X.invokestaticNest hexec hown hlink hnamed hmethM hstatic hkP hinitP hy (g := g) hg (argsL := argsL) (rest := rest) (hlen _ hsigM) hstack hdg
  rcases hK m meth c ⟨T.setVm vm₁, locs, cells, slots⟩ { g with stack := rest } (.invokestatic index) mk argsL.toArray X₁ hg hsize hdg hW (X₁.named hnamed) (hpre vm₁ X₁.warmed) with ⟨v, B, X', hpost, hsteps⟩ | ⟨q, B, X', hpost, hsteps⟩
  · exact Or.inl ⟨v, vm₁, B, X₁.warmed, X', hpost, fun target h => hstep₁ _ fun acts => by rw [doInvoke_state]; exact hsteps.trans h⟩
  · exact Or.inr ⟨q, vm₁, B, X₁.warmed, X', hpost, hstep₁ _ fun acts => by rw [doInvoke_state]; exact hsteps⟩
theorem vx_runVN {y : MethodName} {bytes cc : ByteArray} {maxL nL mc ms n index : Nat} {ret : Option FieldType} {ws : List Cond} {rm : Room} {Pc : Array Value → State → Prop} {Qc : Array Value → State → Outcome → State → Prop} {XC : String → State → State → Prop} {free : Addr → Prop} {Ts : List Cond} {own C host : String} {b : Addr} {As rest : List Value} {g : JFrame}
    (S : CallFix p m c cc nL s args Ts own) (hM : vx_Met l y ws rm Pc Qc XC mc ms free) (cw : va_CN R s args own index y host bytes maxL ret ws rm mc ms n ∧ (Cond.instanceMethod y).before args s = true ∧ (Cond.selects C y y).before args s = true) (hp : PreV s H C b Pc As)
    (hg : g.method = m) (hn : As.length = n) (hsize : g.locals.size = nL) (hstack : g.stack = As.reverse ++ .ref b :: rest) (hW : 2 * g.monitorRoom + (rest.map fun v => v.category).sum ≤ 8) (hdg : decode cc g.pc = .ok (.invokevirtual index, 3)) (hf : cells + mc ≤ R.cells ∧ slots + ms ≤ R.slots) :
    vx_Run p l e R s m args below meth c H locs cells slots mc ms g rest (Qc (Value.ref b :: As).toArray) XC free := by
  obtain ⟨⟨⟨hrc, hrs, hfr, hlo, hws, hcw⟩, hcode, hini, hy, hlen, hl⟩, hx1, hx2⟩ := cw
  have hK : vx_Back l R p e below s args y 3 8 (PreOf R mc ms Pc) (PostOf Qc mc ms free) (vx_Post XC mc ms free) := vx_back (bytes := bytes) (maxL := maxL) (ret := ret) hM hp.1 hrc hrs hfr hlo hws hcw (fun a' U hW => word_at hW (Or.inl (by first | rfl | simp [Cond.onTables, Cond.keeps, Cond.steady])) hini)
  obtain ⟨hx, hb, hml, ho, -⟩ := S
  obtain ⟨-, ⟨cellB, hcB, hoB, hclB⟩, hPc⟩ := hp
  intro T hT X
  rcases vx_callVN X hx (C := C) (bytes := bytes) (maxL := maxL) (ret := ret) ho hl hx1 hx2 hcode hy hK (by rw [hT]; exact hcB) hoB hclB hg (hsize.trans hml.symm) (argsL := As) (rest := rest) (fun sig h => hn.trans (hlen sig h)) hstack hW (by rw [hb]; exact hdg)
    (fun vm₁ hW₁ => ⟨hf.1, hf.2, hPc (T.setVm vm₁) hT hW₁⟩) with ⟨v, vm₁, ⟨U', l2, c2, s2⟩, hW₁, X', ⟨g', mk, t, L, e1, e2, hq, h1, hL, h2, h3⟩, st⟩ | ⟨q, vm₁, ⟨U', l2, c2, s2⟩, hW₁, X', ⟨g', mk, t, L, E, ce, e1, e2, hq, hce, hcv, hcl, h1, hL, h2, h3⟩, st⟩
  · dsimp only [Pt.U, Pt.locs, Pt.cells, Pt.slots] at X' e1 e2 h1 h2 h3 st
    subst h1; subst h2; subst h3
    exact Or.inl ⟨v, (T.setVm vm₁).calling g' mk (Value.ref b :: As).toArray, t, U', L, hT, X', hL, e1, e2, hq, st⟩
  · dsimp only [Pt.U, Pt.locs, Pt.cells, Pt.slots] at X' e1 e2 h1 h2 h3 st hcl
    subst h1; subst h2; subst h3
    exact Or.inr ⟨q, (T.setVm vm₁).calling g' mk (Value.ref b :: As).toArray, t, U', L, E, ce, hT, X', hL, e1, e2, hq, hce, hcv, vx_cls hW₁ hcl, st⟩
theorem vx_runSN {y : MethodName} {bytes cc : ByteArray} {maxL nL mc ms n index : Nat} {ret : Option FieldType} {ws : List Cond} {rm : Room} {Pc : Array Value → State → Prop} {Qc : Array Value → State → Outcome → State → Prop} {XC : String → State → State → Prop} {free : Addr → Prop} {Ts : List Cond} {own host : String} {As rest : List Value} {g : JFrame}
    (S : CallFix p m c cc nL s args Ts own) (hM : vx_Met l y ws rm Pc Qc XC mc ms free) (cw : va_CN R s args own index y host bytes maxL ret ws rm mc ms n ∧ (Cond.static y).before args s = true ∧ True) (hp : PreS s H Pc As)
    (hg : g.method = m) (hn : As.length = n) (hsize : g.locals.size = nL) (hstack : g.stack = As.reverse ++ rest) (hW : 2 * g.monitorRoom + (rest.map fun v => v.category).sum ≤ 8) (hdg : decode cc g.pc = .ok (.invokestatic index, 3)) (hf : cells + mc ≤ R.cells ∧ slots + ms ≤ R.slots) :
    vx_Run p l e R s m args below meth c H locs cells slots mc ms g rest (Qc As.toArray) XC free := by
  obtain ⟨⟨⟨hrc, hrs, hfr, hlo, hws, hcw⟩, hcode, hini, hy, hlen, hl⟩, hx1, hx2⟩ := cw
  have hK : vx_Back l R p e below s args y 3 8 (PreOf R mc ms Pc) (PostOf Qc mc ms free) (vx_Post XC mc ms free) := vx_back (bytes := bytes) (maxL := maxL) (ret := ret) hM hp.1 hrc hrs hfr hlo hws hcw (fun a' U hW => word_at hW (Or.inl (by first | rfl | simp [Cond.onTables, Cond.keeps, Cond.steady])) hini)
  obtain ⟨hx, hb, hml, ho, -⟩ := S
  have hPc := hp.2
  intro T hT X
  rcases vx_callSN X hx (bytes := bytes) (maxL := maxL) (ret := ret) ho hl hx1 hini hcode hy hK hg (hsize.trans hml.symm) (argsL := As) (rest := rest) (fun sig h => hn.trans (hlen sig h)) hstack hW (by rw [hb]; exact hdg)
    (fun vm₁ hW₁ => ⟨hf.1, hf.2, hPc (T.setVm vm₁) hT hW₁⟩) with ⟨v, vm₁, ⟨U', l2, c2, s2⟩, hW₁, X', ⟨g', mk, t, L, e1, e2, hq, h1, hL, h2, h3⟩, st⟩ | ⟨q, vm₁, ⟨U', l2, c2, s2⟩, hW₁, X', ⟨g', mk, t, L, E, ce, e1, e2, hq, hce, hcv, hcl, h1, hL, h2, h3⟩, st⟩
  · dsimp only [Pt.U, Pt.locs, Pt.cells, Pt.slots] at X' e1 e2 h1 h2 h3 st
    subst h1; subst h2; subst h3
    exact Or.inl ⟨v, (T.setVm vm₁).calling g' mk As.toArray, t, U', L, hT, X', hL, e1, e2, hq, st⟩
  · dsimp only [Pt.U, Pt.locs, Pt.cells, Pt.slots] at X' e1 e2 h1 h2 h3 st hcl
    subst h1; subst h2; subst h3
    exact Or.inr ⟨q, (T.setVm vm₁).calling g' mk As.toArray, t, U', L, E, ce, hT, X', hL, e1, e2, hq, hce, hcv, vx_cls hW₁ hcl, st⟩
end
/-! ===== END ===== -/
/-! ===== BEGIN calls by an interface of methods that may throw (vx_callIF, vx_runF follow va_callIF, va_runF of this kit) ===== -/
section
variable {p : Program} {l : Launch} {e : Env} {R : Room} {s : State} {m : MethodId} {args : Array Value} {below : List Frame} {meth : Method} {c : Code} {H : Heap} {locs : List Loc} {cells slots : Nat} {Q : State → Prop}
variable {mc ms : Nat} {free : Addr → Prop} {A0 A1 : Nat → Prop} {H0 : Heap} {a : Array Value} {pc : Nat} {ls : Array Slot} {st0 rest : List Value}
def vx_Run5 (p : Program) (l : Launch) (e : Env) (R : Room) (s : State) (m : MethodId) (args : Array Value) (below : List Frame) (meth : Method) (c : Code) (H : Heap) (locs : List Loc) (cells slots mc ms : Nat) (g : JFrame) (rest : List Value) (Qa : State → Outcome → State → Prop) (XC : String → State → State → Prop) (free : Addr → Prop) : Prop :=
  ∀ T : State, T.heap = H → Stand p l e R s m args below meth c T locs cells slots →
    (∃ (v : Option Value) (st₀ t T' : State) (L : List Loc), st₀.heap = H ∧ Stand p l e R s m args below meth c T' (locs ++ L) (cells + mc) (slots + ms) ∧ (∀ q ∈ L, free q.base) ∧ T'.heap = t.heap ∧ T'.vm = t.vm ∧ Qa st₀ (.returned v) t ∧
      Goes p e below T g T' { g with pc := g.pc + 5, stack := v.toList ++ rest }) ∨
    (∃ (q : Addr) (st₀ t T' : State) (L : List Loc) (E : String) (ce : Cell), st₀.heap = H ∧ Stand p l e R s m args below meth c T' (locs ++ L) (cells + mc) (slots + ms) ∧ (∀ z ∈ L, free z.base) ∧ T'.heap = t.heap ∧ T'.vm = t.vm ∧ XC E st₀ t ∧ t.heap[q]? = some ce ∧ ce.vm = .none ∧ s.vm.findClass E = some ce.cls ∧
      Steps p.tables e below (T.setTop g) ((T'.setTop { g with stack := rest }).pushFrame (.throwing q)))
theorem vx_callIF {T : State} (X : Stand p l e R s m args below meth c T locs cells slots) (hexec : p.tables.exec = Jvm.exec) {own C : String} {index count : Nat} {x y : MethodName} {bytes : ByteArray} {maxL : Nat} {ret : Option FieldType}
    (hown : s.vm.findClass own = some m.cls) (hlink : (Cond.methodLink own index x).before args s = true) (hdecl : (Cond.declares x).before args s = true) (hface : (Cond.interfaceMethod x.cls x.cls x.name x.desc).before args s = true)
    (hsel : (Cond.selects C x y).before args s = true) (hinst : (Cond.instanceMethod y).before args s = true) (hpub : (Cond.publicMethod y).before args s = true) (hunh : (Cond.unhidden C x.name x.desc).before args s = true)
    (hcast : (Cond.castable C x.cls).before args s = true) (hcode : (Cond.code y bytes maxL ret).before args s = true) (hx : x.cls ≠ "java/lang/invoke/MethodHandle" ∧ x.cls ≠ "java/lang/invoke/VarHandle")
    {W9 : Nat} {Pre : Pt → Array Value → Prop} {Post : Pt → Array Value → Option Value → Pt → Prop} {PostX : Pt → Array Value → Addr → Pt → Prop} (hK : vx_Back l R p e below s args y 5 W9 Pre Post PostX)
    {b : Addr} {cellB : Cell} {kB : Class} (hcell : T.heap[b]? = some cellB) (hobj : cellB.vm.isStatics = false) (hcls : s.vm.findClass C = some cellB.cls) (hkB : s.vm.classes[cellB.cls]? = some kB)
    {g : JFrame} (hg : g.method = m) (hsize : g.locals.size = c.maxLocals) {argsL rest : List Value} (hlen : ∀ sig, parseMethodDescriptor x.desc = some sig → argsL.length = sig.parameters.length)
    (hstack : g.stack = argsL.reverse ++ .ref b :: rest) (hW : 2 * g.monitorRoom + (rest.map fun v => v.category).sum ≤ W9) (hdg : decode c.code g.pc = .ok (.invokeinterface index count, 5))
    (hpre : ∀ vm₁, s.WarmedH vm₁ → Pre ⟨T.setVm vm₁, locs, cells, slots⟩ (Value.ref b :: argsL).toArray) :
    (∃ (v : Option Value) (vm₁ : Vm) (B : Pt), s.WarmedH vm₁ ∧ Stand p l e R s m args below meth c B.U B.locs B.cells B.slots ∧ Post ⟨T.setVm vm₁, locs, cells, slots⟩ (Value.ref b :: argsL).toArray v B ∧
      ∀ target, Steps p.tables e below (B.U.setTop { g with pc := g.pc + 5, stack := v.toList ++ rest }) target → Steps p.tables e below (T.setTop g) target) ∨
    (∃ (q : Addr) (vm₁ : Vm) (B : Pt), s.WarmedH vm₁ ∧ Stand p l e R s m args below meth c B.U B.locs B.cells B.slots ∧ PostX ⟨T.setVm vm₁, locs, cells, slots⟩ (Value.ref b :: argsL).toArray q B ∧
      Steps p.tables e below (T.setTop g) ((B.U.setTop { g with stack := rest }).pushFrame (.throwing q))) := by
  obtain ⟨r0, r, hn, hrm, hstR, hsigR⟩ := Cond.declares_spec hdecl
  obtain ⟨cL, kL, r1, hcL, hkL, hiL, hfoundL, hn1⟩ := Cond.interfaceMethod_spec hface
  cases hn.symm.trans hn1
  have hr0cls : r0.cls = cL := Option.some.inj ((findClass_of_methodNamed hn).symm.trans hcL)
  obtain ⟨hnameR, hdescR⟩ := name_of_methodNamed hn hrm
  obtain ⟨mk, methM, hnamed, hmethM, -, habM⟩ := Cond.instanceMethod_spec hinst
  obtain ⟨c2, r2, m2, q1, q2, q3, q4, -⟩ := Cond.selects_spec hsel
  cases hcls.symm.trans q1
  cases hfoundL.symm.trans q2
  cases hnamed.symm.trans q3
  have hselP : selectMethod e.platform s.vm cellB.cls r0 = .method mk := by rw [Launch.admits_selectMethod X.admits]; exact q4
  have hpubM : hasFlag methM.accessFlags Acc.public_ = true := Cond.publicMethod_spec hnamed hmethM hpub
  have hway : ((cellB.cls :: s.vm.superclasses cellB.cls).any fun k => (declaredIn s.vm r.name r.desc k).any fun (_, z) => z.isPrivate || z.isStatic) = false := by
    rw [hnameR, hdescR]; exact Cond.unhidden_spec hcls hunh
  obtain ⟨c3, t3, w1, w2, w3⟩ := Cond.castable_spec hcast
  cases hcls.symm.trans w1
  cases hcL.symm.trans w2
  obtain ⟨vm₁, X₁, hstep₁⟩ := X.invokeinterface hexec hown hlink hn hrm hstR (by rw [hr0cls]; exact hkL) hiL hx (a := b) (cell := cellB) (kcell := kB) hcell
    (fun z h => by rw [h] at hobj; cases hobj) hkB (by rw [hr0cls]; exact w3) hselP hmethM hway hpubM habM (g := g) hg (argsL := argsL) (rest := rest) (hlen _ hsigR) hstack hdg
  rcases hK m meth c ⟨T.setVm vm₁, locs, cells, slots⟩ { g with stack := rest } (.invokeinterface index count) mk (Value.ref b :: argsL).toArray X₁ hg hsize hdg hW (X₁.named hnamed) (hpre vm₁ X₁.warmed) with ⟨v, B, X', hpost, hsteps⟩ | ⟨q, B, X', hpost, hsteps⟩
  · exact Or.inl ⟨v, vm₁, B, X₁.warmed, X', hpost, fun target h => hstep₁ _ fun acts => by rw [doInvoke_state]; exact hsteps.trans h⟩
  · exact Or.inr ⟨q, vm₁, B, X₁.warmed, X', hpost, hstep₁ _ fun acts => by rw [doInvoke_state]; exact hsteps⟩
theorem vx_runF {x y : MethodName} {bytes cc : ByteArray} {maxL nL mc ms n index count : Nat} {ret : Option FieldType} {ws : List Cond} {rm : Room} {Pc : Array Value → State → Prop} {Qc : Array Value → State → Outcome → State → Prop} {XC : String → State → State → Prop} {free : Addr → Prop} {Ts : List Cond} {own C : String} {cC : ClassId} {b : Addr} {As rest : List Value} {g : JFrame}
    (hat : ClassAt s C cC) (S : CallFix p m c cc nL s args Ts own) (hM : vx_Met l y ws rm Pc Qc XC mc ms free) (cw : va_CI R s args own C index x y bytes maxL ret ws rm mc ms n) (hp : PreV s H C b Pc As)
    (hg : g.method = m) (hn : As.length = n) (hsize : g.locals.size = nL) (hstack : g.stack = As.reverse ++ .ref b :: rest) (hW : 2 * g.monitorRoom + (rest.map fun v => v.category).sum ≤ 8) (hdg : decode cc g.pc = .ok (.invokeinterface index count, 5)) (hf : cells + mc ≤ R.cells ∧ slots + ms ≤ R.slots) :
    vx_Run5 p l e R s m args below meth c H locs cells slots mc ms g rest (Qc (Value.ref b :: As).toArray) XC free := by
  obtain ⟨hrc, hrs, hfr, hlo, hws, hcw⟩ := cw.back
  have hini := cw.init
  have hK : vx_Back l R p e below s args y 5 8 (PreOf R mc ms Pc) (PostOf Qc mc ms free) (vx_Post XC mc ms free) := vx_back (bytes := bytes) (maxL := maxL) (ret := ret) hM hp.1 hrc hrs hfr hlo hws hcw (fun a' U hW => word_at hW (Or.inl (by first | rfl | simp [Cond.onTables, Cond.keeps, Cond.steady])) hini)
  obtain ⟨hx, hb, hml, ho, -⟩ := S
  obtain ⟨-, ⟨cellB, hcB, hoB, hclB⟩, hPc⟩ := hp
  obtain ⟨hfc, kB, hkB, -⟩ := hat
  cases hfc.symm.trans hclB
  intro T hT X
  rcases vx_callIF X hx (C := C) (bytes := bytes) (maxL := maxL) (ret := ret) ho cw.link cw.decl cw.face cw.sel cw.inst cw.pub cw.unh cw.cast cw.code cw.notMH hK (by rw [hT]; exact hcB) hoB hclB hkB hg (hsize.trans hml.symm) (argsL := As) (rest := rest) (fun sig h => hn.trans (cw.len sig h)) hstack hW (by rw [hb]; exact hdg)
    (fun vm₁ hW₁ => ⟨hf.1, hf.2, hPc (T.setVm vm₁) hT hW₁⟩) with ⟨v, vm₁, ⟨U', l2, c2, s2⟩, hW₁, X', ⟨g', mk, t, L, e1, e2, hq, h1, hL, h2, h3⟩, st⟩ | ⟨q, vm₁, ⟨U', l2, c2, s2⟩, hW₁, X', ⟨g', mk, t, L, E, ce, e1, e2, hq, hce, hcv, hcl, h1, hL, h2, h3⟩, st⟩
  · dsimp only [Pt.U, Pt.locs, Pt.cells, Pt.slots] at X' e1 e2 h1 h2 h3 st
    subst h1; subst h2; subst h3
    exact Or.inl ⟨v, (T.setVm vm₁).calling g' mk (Value.ref b :: As).toArray, t, U', L, hT, X', hL, e1, e2, hq, st⟩
  · dsimp only [Pt.U, Pt.locs, Pt.cells, Pt.slots] at X' e1 e2 h1 h2 h3 st hcl
    subst h1; subst h2; subst h3
    exact Or.inr ⟨q, (T.setVm vm₁).calling g' mk (Value.ref b :: As).toArray, t, U', L, E, ce, hT, X', hL, e1, e2, hq, hce, hcv, vx_cls hW₁ hcl, st⟩
theorem vx_callFv {S SX : Type} {post : S → Prop} {px : SX → Prop} {B : S → State → Prop} {BX : String → SX → State → Prop} {AX : Nat → Prop} (hr : vx_Run5 p l e R s m args below meth c H locs cells slots mc ms (F0 m pc ls st0) rest (va_Qv post B A1 a) (vx_X px BX AX) free) (hS : va_S A0 H0 H locs) (hA : ∀ q, q < H.size → A1 q → A0 q) (hf : ∀ q, free q → A0 q) (hAX : ∀ q, q < H.size → AX q → A0 q)
    (kx : ∀ (E : String) (ce : Cell) (q9 : Addr) (u : SX) (t : State) (H1 : Heap) (locs1 : List Loc), t.heap = H1 → s.vm.Alike t.vm → px u → BX E u t → H.size ≤ H1.size → (∀ q : Nat, q < H.size → ¬ AX q → H1[q]? = H[q]?) → va_S A0 H0 H1 locs1 → H1[q9]? = some ce → ce.vm = .none → s.vm.findClass E = some ce.cls → vx_W p l e R s m args below meth c H1 locs1 (cells + mc) (slots + ms) Q (F0 m pc ls rest) q9)
    (kk : ∀ (u : S) (t : State) (H1 : Heap) (locs1 : List Loc), t.heap = H1 → s.vm.Alike t.vm → post u → B u t → H.size ≤ H1.size → (∀ q : Nat, q < H.size → ¬ A1 q → H1[q]? = H[q]?) → va_S A0 H0 H1 locs1 → W p l e R s m args below meth c H1 locs1 (cells + mc) (slots + ms) Q (F0 m (pc + 5) ls (rest))) : W p l e R s m args below meth c H locs cells slots Q (F0 m pc ls st0) := by
  intro T hT X
  rcases hr T hT X with ⟨v, st₀, t, T', L, h0, X', hL, e1, e2, ⟨⟨u, hv, hp, hb⟩, hF⟩, st⟩ | ⟨q, st₀, t, T', L, E, ce, h0, X', hL, e1, e2, ⟨u, hp, hb, hF⟩, hce, hcv, hcl, st⟩
  · cases hv
    obtain ⟨k1, k2, k3⟩ := vx_keep h0 e1 hS hA hf hL hF
    obtain ⟨t2, a1, b1⟩ := kk u t T'.heap (locs ++ L) e1.symm (by rw [← e2]; exact X'.warmed.alike) hp hb k1 k2 k3 T' rfl X'
    exact ⟨t2, st t2 a1, b1⟩
  · obtain ⟨k1, k2, k3⟩ := vx_keep h0 e1 hS hAX hf hL hF
    obtain ⟨t2, a1, b1⟩ := kx E ce q u t T'.heap (locs ++ L) e1.symm (by rw [← e2]; exact X'.warmed.alike) hp hb k1 k2 k3 (by rw [e1]; exact hce) hcv hcl T' rfl X'
    exact ⟨t2, st.trans a1, b1⟩
theorem vx_callFi {S SX : Type} {post : Int32 → S → Prop} {px : SX → Prop} {B : S → State → Prop} {BX : String → SX → State → Prop} {AX : Nat → Prop} (hr : vx_Run5 p l e R s m args below meth c H locs cells slots mc ms (F0 m pc ls st0) rest (va_Qi post B A1 a) (vx_X px BX AX) free) (hS : va_S A0 H0 H locs) (hA : ∀ q, q < H.size → A1 q → A0 q) (hf : ∀ q, free q → A0 q) (hAX : ∀ q, q < H.size → AX q → A0 q)
    (kx : ∀ (E : String) (ce : Cell) (q9 : Addr) (u : SX) (t : State) (H1 : Heap) (locs1 : List Loc), t.heap = H1 → s.vm.Alike t.vm → px u → BX E u t → H.size ≤ H1.size → (∀ q : Nat, q < H.size → ¬ AX q → H1[q]? = H[q]?) → va_S A0 H0 H1 locs1 → H1[q9]? = some ce → ce.vm = .none → s.vm.findClass E = some ce.cls → vx_W p l e R s m args below meth c H1 locs1 (cells + mc) (slots + ms) Q (F0 m pc ls rest) q9)
    (kk : ∀ (r : Int32) (u : S) (t : State) (H1 : Heap) (locs1 : List Loc), t.heap = H1 → s.vm.Alike t.vm → post r u → B u t → H.size ≤ H1.size → (∀ q : Nat, q < H.size → ¬ A1 q → H1[q]? = H[q]?) → va_S A0 H0 H1 locs1 → W p l e R s m args below meth c H1 locs1 (cells + mc) (slots + ms) Q (F0 m (pc + 5) ls (.int r :: rest))) : W p l e R s m args below meth c H locs cells slots Q (F0 m pc ls st0) := by
  intro T hT X
  rcases hr T hT X with ⟨v, st₀, t, T', L, h0, X', hL, e1, e2, ⟨⟨r, u, hv, hp, hb⟩, hF⟩, st⟩ | ⟨q, st₀, t, T', L, E, ce, h0, X', hL, e1, e2, ⟨u, hp, hb, hF⟩, hce, hcv, hcl, st⟩
  · cases hv
    obtain ⟨k1, k2, k3⟩ := vx_keep h0 e1 hS hA hf hL hF
    obtain ⟨t2, a1, b1⟩ := kk r u t T'.heap (locs ++ L) e1.symm (by rw [← e2]; exact X'.warmed.alike) hp hb k1 k2 k3 T' rfl X'
    exact ⟨t2, st t2 a1, b1⟩
  · obtain ⟨k1, k2, k3⟩ := vx_keep h0 e1 hS hAX hf hL hF
    obtain ⟨t2, a1, b1⟩ := kx E ce q u t T'.heap (locs ++ L) e1.symm (by rw [← e2]; exact X'.warmed.alike) hp hb k1 k2 k3 (by rw [e1]; exact hce) hcv hcl T' rfl X'
    exact ⟨t2, st.trans a1, b1⟩
theorem vx_callFl {S SX : Type} {post : Int64 → S → Prop} {px : SX → Prop} {B : S → State → Prop} {BX : String → SX → State → Prop} {AX : Nat → Prop} (hr : vx_Run5 p l e R s m args below meth c H locs cells slots mc ms (F0 m pc ls st0) rest (va_Ql post B A1 a) (vx_X px BX AX) free) (hS : va_S A0 H0 H locs) (hA : ∀ q, q < H.size → A1 q → A0 q) (hf : ∀ q, free q → A0 q) (hAX : ∀ q, q < H.size → AX q → A0 q)
    (kx : ∀ (E : String) (ce : Cell) (q9 : Addr) (u : SX) (t : State) (H1 : Heap) (locs1 : List Loc), t.heap = H1 → s.vm.Alike t.vm → px u → BX E u t → H.size ≤ H1.size → (∀ q : Nat, q < H.size → ¬ AX q → H1[q]? = H[q]?) → va_S A0 H0 H1 locs1 → H1[q9]? = some ce → ce.vm = .none → s.vm.findClass E = some ce.cls → vx_W p l e R s m args below meth c H1 locs1 (cells + mc) (slots + ms) Q (F0 m pc ls rest) q9)
    (kk : ∀ (r : Int64) (u : S) (t : State) (H1 : Heap) (locs1 : List Loc), t.heap = H1 → s.vm.Alike t.vm → post r u → B u t → H.size ≤ H1.size → (∀ q : Nat, q < H.size → ¬ A1 q → H1[q]? = H[q]?) → va_S A0 H0 H1 locs1 → W p l e R s m args below meth c H1 locs1 (cells + mc) (slots + ms) Q (F0 m (pc + 5) ls (.long r :: rest))) : W p l e R s m args below meth c H locs cells slots Q (F0 m pc ls st0) := by
  intro T hT X
  rcases hr T hT X with ⟨v, st₀, t, T', L, h0, X', hL, e1, e2, ⟨⟨r, u, hv, hp, hb⟩, hF⟩, st⟩ | ⟨q, st₀, t, T', L, E, ce, h0, X', hL, e1, e2, ⟨u, hp, hb, hF⟩, hce, hcv, hcl, st⟩
  · cases hv
    obtain ⟨k1, k2, k3⟩ := vx_keep h0 e1 hS hA hf hL hF
    obtain ⟨t2, a1, b1⟩ := kk r u t T'.heap (locs ++ L) e1.symm (by rw [← e2]; exact X'.warmed.alike) hp hb k1 k2 k3 T' rfl X'
    exact ⟨t2, st t2 a1, b1⟩
  · obtain ⟨k1, k2, k3⟩ := vx_keep h0 e1 hS hAX hf hL hF
    obtain ⟨t2, a1, b1⟩ := kx E ce q u t T'.heap (locs ++ L) e1.symm (by rw [← e2]; exact X'.warmed.alike) hp hb k1 k2 k3 (by rw [e1]; exact hce) hcv hcl T' rfl X'
    exact ⟨t2, st.trans a1, b1⟩
theorem vx_callFf {S SX : Type} {post : UInt32 → S → Prop} {px : SX → Prop} {B : S → State → Prop} {BX : String → SX → State → Prop} {AX : Nat → Prop} (hr : vx_Run5 p l e R s m args below meth c H locs cells slots mc ms (F0 m pc ls st0) rest (va_Qf post B A1 a) (vx_X px BX AX) free) (hS : va_S A0 H0 H locs) (hA : ∀ q, q < H.size → A1 q → A0 q) (hf : ∀ q, free q → A0 q) (hAX : ∀ q, q < H.size → AX q → A0 q)
    (kx : ∀ (E : String) (ce : Cell) (q9 : Addr) (u : SX) (t : State) (H1 : Heap) (locs1 : List Loc), t.heap = H1 → s.vm.Alike t.vm → px u → BX E u t → H.size ≤ H1.size → (∀ q : Nat, q < H.size → ¬ AX q → H1[q]? = H[q]?) → va_S A0 H0 H1 locs1 → H1[q9]? = some ce → ce.vm = .none → s.vm.findClass E = some ce.cls → vx_W p l e R s m args below meth c H1 locs1 (cells + mc) (slots + ms) Q (F0 m pc ls rest) q9)
    (kk : ∀ (r : UInt32) (u : S) (t : State) (H1 : Heap) (locs1 : List Loc), t.heap = H1 → s.vm.Alike t.vm → post r u → B u t → H.size ≤ H1.size → (∀ q : Nat, q < H.size → ¬ A1 q → H1[q]? = H[q]?) → va_S A0 H0 H1 locs1 → W p l e R s m args below meth c H1 locs1 (cells + mc) (slots + ms) Q (F0 m (pc + 5) ls (.float r :: rest))) : W p l e R s m args below meth c H locs cells slots Q (F0 m pc ls st0) := by
  intro T hT X
  rcases hr T hT X with ⟨v, st₀, t, T', L, h0, X', hL, e1, e2, ⟨⟨r, u, hv, hp, hb⟩, hF⟩, st⟩ | ⟨q, st₀, t, T', L, E, ce, h0, X', hL, e1, e2, ⟨u, hp, hb, hF⟩, hce, hcv, hcl, st⟩
  · cases hv
    obtain ⟨k1, k2, k3⟩ := vx_keep h0 e1 hS hA hf hL hF
    obtain ⟨t2, a1, b1⟩ := kk r u t T'.heap (locs ++ L) e1.symm (by rw [← e2]; exact X'.warmed.alike) hp hb k1 k2 k3 T' rfl X'
    exact ⟨t2, st t2 a1, b1⟩
  · obtain ⟨k1, k2, k3⟩ := vx_keep h0 e1 hS hAX hf hL hF
    obtain ⟨t2, a1, b1⟩ := kx E ce q u t T'.heap (locs ++ L) e1.symm (by rw [← e2]; exact X'.warmed.alike) hp hb k1 k2 k3 (by rw [e1]; exact hce) hcv hcl T' rfl X'
    exact ⟨t2, st.trans a1, b1⟩
theorem vx_callFd {S SX : Type} {post : UInt64 → S → Prop} {px : SX → Prop} {B : S → State → Prop} {BX : String → SX → State → Prop} {AX : Nat → Prop} (hr : vx_Run5 p l e R s m args below meth c H locs cells slots mc ms (F0 m pc ls st0) rest (va_Qd post B A1 a) (vx_X px BX AX) free) (hS : va_S A0 H0 H locs) (hA : ∀ q, q < H.size → A1 q → A0 q) (hf : ∀ q, free q → A0 q) (hAX : ∀ q, q < H.size → AX q → A0 q)
    (kx : ∀ (E : String) (ce : Cell) (q9 : Addr) (u : SX) (t : State) (H1 : Heap) (locs1 : List Loc), t.heap = H1 → s.vm.Alike t.vm → px u → BX E u t → H.size ≤ H1.size → (∀ q : Nat, q < H.size → ¬ AX q → H1[q]? = H[q]?) → va_S A0 H0 H1 locs1 → H1[q9]? = some ce → ce.vm = .none → s.vm.findClass E = some ce.cls → vx_W p l e R s m args below meth c H1 locs1 (cells + mc) (slots + ms) Q (F0 m pc ls rest) q9)
    (kk : ∀ (r : UInt64) (u : S) (t : State) (H1 : Heap) (locs1 : List Loc), t.heap = H1 → s.vm.Alike t.vm → post r u → B u t → H.size ≤ H1.size → (∀ q : Nat, q < H.size → ¬ A1 q → H1[q]? = H[q]?) → va_S A0 H0 H1 locs1 → W p l e R s m args below meth c H1 locs1 (cells + mc) (slots + ms) Q (F0 m (pc + 5) ls (.double r :: rest))) : W p l e R s m args below meth c H locs cells slots Q (F0 m pc ls st0) := by
  intro T hT X
  rcases hr T hT X with ⟨v, st₀, t, T', L, h0, X', hL, e1, e2, ⟨⟨r, u, hv, hp, hb⟩, hF⟩, st⟩ | ⟨q, st₀, t, T', L, E, ce, h0, X', hL, e1, e2, ⟨u, hp, hb, hF⟩, hce, hcv, hcl, st⟩
  · cases hv
    obtain ⟨k1, k2, k3⟩ := vx_keep h0 e1 hS hA hf hL hF
    obtain ⟨t2, a1, b1⟩ := kk r u t T'.heap (locs ++ L) e1.symm (by rw [← e2]; exact X'.warmed.alike) hp hb k1 k2 k3 T' rfl X'
    exact ⟨t2, st t2 a1, b1⟩
  · obtain ⟨k1, k2, k3⟩ := vx_keep h0 e1 hS hAX hf hL hF
    obtain ⟨t2, a1, b1⟩ := kx E ce q u t T'.heap (locs ++ L) e1.symm (by rw [← e2]; exact X'.warmed.alike) hp hb k1 k2 k3 (by rw [e1]; exact hce) hcv hcl T' rfl X'
    exact ⟨t2, st.trans a1, b1⟩
end
/-! ===== END ===== -/
/-! ===== BEGIN by an interface, a method with a table of its own that may throw (follows va_callIFW, va_runFW) ===== -/
section
variable {p : Program} {l : Launch} {e : Env} {R : Room} {s : State} {m : MethodId} {args : Array Value} {below : List Frame} {meth : Method} {c : Code} {H : Heap} {locs : List Loc} {cells slots : Nat}
theorem vx_callIFW {T : State} (X : Stand p l e R s m args below meth c T locs cells slots) (hexec : p.tables.exec = Jvm.exec) {own C : String} {index count : Nat} {x y : MethodName} {bytes : ByteArray} {maxL : Nat} {ret : Option FieldType} {hh : List (Nat × Nat × Nat × Nat)}
    (hown : s.vm.findClass own = some m.cls) (hlink : (Cond.methodLink own index x).before args s = true) (hdecl : (Cond.declares x).before args s = true) (hface : (Cond.interfaceMethod x.cls x.cls x.name x.desc).before args s = true)
    (hsel : (Cond.selects C x y).before args s = true) (hinst : (Cond.instanceMethod y).before args s = true) (hpub : (Cond.publicMethod y).before args s = true) (hunh : (Cond.unhidden C x.name x.desc).before args s = true)
    (hcast : (Cond.castable C x.cls).before args s = true) (hcode : (Cond.codeWith y bytes maxL ret hh).before args s = true) (hx : x.cls ≠ "java/lang/invoke/MethodHandle" ∧ x.cls ≠ "java/lang/invoke/VarHandle")
    {W : Nat} {Pre : Pt → Array Value → Prop} {Post : Pt → Array Value → Option Value → Pt → Prop} {PostX : Pt → Array Value → Addr → Pt → Prop} (hK : vx_Back l R p e below s args y 5 W Pre Post PostX)
    {b : Addr} {cellB : Cell} {kB : Class} (hcell : T.heap[b]? = some cellB) (hobj : cellB.vm.isStatics = false) (hcls : s.vm.findClass C = some cellB.cls) (hkB : s.vm.classes[cellB.cls]? = some kB)
    {g : JFrame} (hg : g.method = m) (hsize : g.locals.size = c.maxLocals) {argsL rest : List Value} (hlen : ∀ sig, parseMethodDescriptor x.desc = some sig → argsL.length = sig.parameters.length)
    (hstack : g.stack = argsL.reverse ++ .ref b :: rest) (hW : 2 * g.monitorRoom + (rest.map fun v => v.category).sum ≤ W) (hdg : decode c.code g.pc = .ok (.invokeinterface index count, 5))
    (hpre : ∀ vm₁, s.WarmedH vm₁ → Pre ⟨T.setVm vm₁, locs, cells, slots⟩ (Value.ref b :: argsL).toArray) :
    (∃ (v : Option Value) (vm₁ : Vm) (B : Pt), s.WarmedH vm₁ ∧ Stand p l e R s m args below meth c B.U B.locs B.cells B.slots ∧ Post ⟨T.setVm vm₁, locs, cells, slots⟩ (Value.ref b :: argsL).toArray v B ∧
      ∀ target, Steps p.tables e below (B.U.setTop { g with pc := g.pc + 5, stack := v.toList ++ rest }) target → Steps p.tables e below (T.setTop g) target) ∨
    (∃ (q : Addr) (vm₁ : Vm) (B : Pt), s.WarmedH vm₁ ∧ Stand p l e R s m args below meth c B.U B.locs B.cells B.slots ∧ PostX ⟨T.setVm vm₁, locs, cells, slots⟩ (Value.ref b :: argsL).toArray q B ∧
      Steps p.tables e below (T.setTop g) ((B.U.setTop { g with stack := rest }).pushFrame (.throwing q))) := by
  obtain ⟨r0, r, hn, hrm, hstR, hsigR⟩ := Cond.declares_spec hdecl
  obtain ⟨cL, kL, r1, hcL, hkL, hiL, hfoundL, hn1⟩ := Cond.interfaceMethod_spec hface
  cases hn.symm.trans hn1
  have hr0cls : r0.cls = cL := Option.some.inj ((findClass_of_methodNamed hn).symm.trans hcL)
  obtain ⟨hnameR, hdescR⟩ := name_of_methodNamed hn hrm
  obtain ⟨mk, methM, hnamed, hmethM, -, habM⟩ := Cond.instanceMethod_spec hinst
  obtain ⟨c2, r2, m2, q1, q2, q3, q4, -⟩ := Cond.selects_spec hsel
  cases hcls.symm.trans q1
  cases hfoundL.symm.trans q2
  cases hnamed.symm.trans q3
  have hselP : selectMethod e.platform s.vm cellB.cls r0 = .method mk := by rw [Launch.admits_selectMethod X.admits]; exact q4
  have hpubM : hasFlag methM.accessFlags Acc.public_ = true := Cond.publicMethod_spec hnamed hmethM hpub
  have hway : ((cellB.cls :: s.vm.superclasses cellB.cls).any fun k => (declaredIn s.vm r.name r.desc k).any fun (_, z) => z.isPrivate || z.isStatic) = false := by
    rw [hnameR, hdescR]; exact Cond.unhidden_spec hcls hunh
  obtain ⟨c3, t3, w1, w2, w3⟩ := Cond.castable_spec hcast
  cases hcls.symm.trans w1
  cases hcL.symm.trans w2
  obtain ⟨vm₁, X₁, hstep₁⟩ := X.invokeinterface hexec hown hlink hn hrm hstR (by rw [hr0cls]; exact hkL) hiL hx (a := b) (cell := cellB) (kcell := kB) hcell
    (fun z h => by rw [h] at hobj; cases hobj) hkB (by rw [hr0cls]; exact w3) hselP hmethM hway hpubM habM (g := g) hg (argsL := argsL) (rest := rest) (hlen _ hsigR) hstack hdg
  rcases hK m meth c ⟨T.setVm vm₁, locs, cells, slots⟩ { g with stack := rest } (.invokeinterface index count) mk (Value.ref b :: argsL).toArray X₁ hg hsize hdg hW (X₁.named hnamed) (hpre vm₁ X₁.warmed) with ⟨v, B, X', hpost, hsteps⟩ | ⟨q, B, X', hpost, hsteps⟩
  · exact Or.inl ⟨v, vm₁, B, X₁.warmed, X', hpost, fun target h => hstep₁ _ fun acts => by rw [doInvoke_state]; exact hsteps.trans h⟩
  · exact Or.inr ⟨q, vm₁, B, X₁.warmed, X', hpost, hstep₁ _ fun acts => by rw [doInvoke_state]; exact hsteps⟩
theorem vx_runFW {x y : MethodName} {bytes cc : ByteArray} {maxL nL mc ms n index count : Nat} {ret : Option FieldType} {hh : List (Nat × Nat × Nat × Nat)} {ws : List Cond} {rm : Room} {Pc : Array Value → State → Prop} {Qc : Array Value → State → Outcome → State → Prop} {XC : String → State → State → Prop} {free : Addr → Prop} {Ts : List Cond} {own C : String} {cC : ClassId} {b : Addr} {As rest : List Value} {g : JFrame}
    (hat : ClassAt s C cC) (S : CallFix p m c cc nL s args Ts own) (hM : vx_Met l y ws rm Pc Qc XC mc ms free) (cw : va_CIW R s args own C index x y bytes maxL ret hh ws rm mc ms n) (hp : PreV s H C b Pc As)
    (hg : g.method = m) (hn : As.length = n) (hsize : g.locals.size = nL) (hstack : g.stack = As.reverse ++ .ref b :: rest) (hW : 2 * g.monitorRoom + (rest.map fun v => v.category).sum ≤ 8) (hdg : decode cc g.pc = .ok (.invokeinterface index count, 5)) (hf : cells + mc ≤ R.cells ∧ slots + ms ≤ R.slots) :
    vx_Run5 p l e R s m args below meth c H locs cells slots mc ms g rest (Qc (Value.ref b :: As).toArray) XC free := by
  obtain ⟨hrc, hrs, hfr, hlo, hws, hcw⟩ := cw.back
  have hini := cw.init
  have hK : vx_Back l R p e below s args y 5 8 (PreOf R mc ms Pc) (PostOf Qc mc ms free) (vx_Post XC mc ms free) := vx_backW (hh := hh) (bytes := bytes) (maxL := maxL) (ret := ret) hM hp.1 hrc hrs hfr hlo hws hcw (fun a' U hW => word_at hW (Or.inl (by first | rfl | simp [Cond.onTables, Cond.keeps, Cond.steady])) hini)
  obtain ⟨hx, hb, hml, ho, -⟩ := S
  obtain ⟨-, ⟨cellB, hcB, hoB, hclB⟩, hPc⟩ := hp
  obtain ⟨hfc, kB, hkB, -⟩ := hat
  cases hfc.symm.trans hclB
  intro T hT X
  rcases vx_callIFW X hx (C := C) (hh := hh) (bytes := bytes) (maxL := maxL) (ret := ret) ho cw.link cw.decl cw.face cw.sel cw.inst cw.pub cw.unh cw.cast cw.code cw.notMH hK (by rw [hT]; exact hcB) hoB hclB hkB hg (hsize.trans hml.symm) (argsL := As) (rest := rest) (fun sig h => hn.trans (cw.len sig h)) hstack hW (by rw [hb]; exact hdg)
    (fun vm₁ hW₁ => ⟨hf.1, hf.2, hPc (T.setVm vm₁) hT hW₁⟩) with ⟨v, vm₁, ⟨U', l2, c2, s2⟩, hW₁, X', ⟨g', mk, t, L, e1, e2, hq, h1, hL, h2, h3⟩, st⟩ | ⟨q, vm₁, ⟨U', l2, c2, s2⟩, hW₁, X', ⟨g', mk, t, L, E, ce, e1, e2, hq, hce, hcv, hcl, h1, hL, h2, h3⟩, st⟩
  · dsimp only [Pt.U, Pt.locs, Pt.cells, Pt.slots] at X' e1 e2 h1 h2 h3 st
    subst h1; subst h2; subst h3
    exact Or.inl ⟨v, (T.setVm vm₁).calling g' mk (Value.ref b :: As).toArray, t, U', L, hT, X', hL, e1, e2, hq, st⟩
  · dsimp only [Pt.U, Pt.locs, Pt.cells, Pt.slots] at X' e1 e2 h1 h2 h3 st hcl
    subst h1; subst h2; subst h3
    exact Or.inr ⟨q, (T.setVm vm₁).calling g' mk (Value.ref b :: As).toArray, t, U', L, E, ce, hT, X', hL, e1, e2, hq, hce, hcv, vx_cls hW₁ hcl, st⟩
end
/-! ===== END ===== -/
/-! ===== BEGIN .. of methods that hand back an object of the pool ===== -/
section
variable {p : Program} {l : Launch} {e : Env} {R : Room} {s : State} {m : MethodId} {args : Array Value} {below : List Frame} {meth : Method} {c : Code} {H : Heap} {locs : List Loc} {cells slots : Nat} {Q : State → Prop}
variable {mc ms : Nat} {free : Addr → Prop} {A0 A1 : Nat → Prop} {H0 : Heap} {a : Array Value} {pc : Nat} {ls : Array Slot} {st0 rest : List Value}
theorem vx_callq {S SX : Type} {post : Option Nat → S → Prop} {px : SX → Prop} {B : S → State → Prop} {BX : String → SX → State → Prop} {AX : Nat → Prop} (hr : vx_Run p l e R s m args below meth c H locs cells slots mc ms (F0 m pc ls st0) rest (va_Qq post B A1 a) (vx_X px BX AX) free) (hS : va_S A0 H0 H locs) (hA : ∀ q, q < H.size → A1 q → A0 q) (hf : ∀ q, free q → A0 q) (hAX : ∀ q, q < H.size → AX q → A0 q)
    (kx : ∀ (E : String) (ce : Cell) (q9 : Addr) (u : SX) (t : State) (H1 : Heap) (locs1 : List Loc), t.heap = H1 → s.vm.Alike t.vm → px u → BX E u t → H.size ≤ H1.size → (∀ q : Nat, q < H.size → ¬ AX q → H1[q]? = H[q]?) → va_S A0 H0 H1 locs1 → H1[q9]? = some ce → ce.vm = .none → s.vm.findClass E = some ce.cls → vx_W p l e R s m args below meth c H1 locs1 (cells + mc) (slots + ms) Q (F0 m pc ls rest) q9)
    (kk : ∀ (r : Option Nat) (u : S) (t : State) (H1 : Heap) (locs1 : List Loc), t.heap = H1 → s.vm.Alike t.vm → post r u → B u t → H.size ≤ H1.size → (∀ q : Nat, q < H.size → ¬ A1 q → H1[q]? = H[q]?) → va_S A0 H0 H1 locs1 → W p l e R s m args below meth c H1 locs1 (cells + mc) (slots + ms) Q (F0 m (pc + 3) ls (va_rf r :: rest))) : W p l e R s m args below meth c H locs cells slots Q (F0 m pc ls st0) := by
  intro T hT X
  rcases hr T hT X with ⟨v, st₀, t, T', L, h0, X', hL, e1, e2, ⟨⟨r, u, hv, hp, hb⟩, hF⟩, st⟩ | ⟨q, st₀, t, T', L, E, ce, h0, X', hL, e1, e2, ⟨u, hp, hb, hF⟩, hce, hcv, hcl, st⟩
  · cases hv
    obtain ⟨k1, k2, k3⟩ := vx_keep h0 e1 hS hA hf hL hF
    obtain ⟨t2, a1, b1⟩ := kk r u t T'.heap (locs ++ L) e1.symm (by rw [← e2]; exact X'.warmed.alike) hp hb k1 k2 k3 T' rfl X'
    exact ⟨t2, st t2 a1, b1⟩
  · obtain ⟨k1, k2, k3⟩ := vx_keep h0 e1 hS hAX hf hL hF
    obtain ⟨t2, a1, b1⟩ := kx E ce q u t T'.heap (locs ++ L) e1.symm (by rw [← e2]; exact X'.warmed.alike) hp hb k1 k2 k3 (by rw [e1]; exact hce) hcv hcl T' rfl X'
    exact ⟨t2, st.trans a1, b1⟩
end
/-! ===== END ===== -/
/-! ===== BEGIN .. a constant ===== -/
section
variable {p : Program} {l : Launch} {e : Env} {R : Room} {s : State} {m : MethodId} {args : Array Value} {below : List Frame} {meth : Method} {c : Code} {H : Heap} {locs : List Loc} {cells slots : Nat} {Q : State → Prop}
variable {mc ms : Nat} {free : Addr → Prop} {A0 A1 : Nat → Prop} {H0 : Heap} {a : Array Value} {pc : Nat} {ls : Array Slot} {st0 rest : List Value}
theorem vx_calle {ad : Nat → Nat} {S SX : Type} {post : Option Nat → S → Prop} {px : SX → Prop} {B : S → State → Prop} {BX : String → SX → State → Prop} {AX : Nat → Prop} (hr : vx_Run p l e R s m args below meth c H locs cells slots mc ms (F0 m pc ls st0) rest (va_Qe ad post B A1 a) (vx_X px BX AX) free) (hS : va_S A0 H0 H locs) (hA : ∀ q, q < H.size → A1 q → A0 q) (hf : ∀ q, free q → A0 q) (hAX : ∀ q, q < H.size → AX q → A0 q)
    (kx : ∀ (E : String) (ce : Cell) (q9 : Addr) (u : SX) (t : State) (H1 : Heap) (locs1 : List Loc), t.heap = H1 → s.vm.Alike t.vm → px u → BX E u t → H.size ≤ H1.size → (∀ q : Nat, q < H.size → ¬ AX q → H1[q]? = H[q]?) → va_S A0 H0 H1 locs1 → H1[q9]? = some ce → ce.vm = .none → s.vm.findClass E = some ce.cls → vx_W p l e R s m args below meth c H1 locs1 (cells + mc) (slots + ms) Q (F0 m pc ls rest) q9)
    (kk : ∀ (r : Option Nat) (u : S) (t : State) (H1 : Heap) (locs1 : List Loc), t.heap = H1 → s.vm.Alike t.vm → post r u → B u t → H.size ≤ H1.size → (∀ q : Nat, q < H.size → ¬ A1 q → H1[q]? = H[q]?) → va_S A0 H0 H1 locs1 → W p l e R s m args below meth c H1 locs1 (cells + mc) (slots + ms) Q (F0 m (pc + 3) ls (va_re ad r :: rest))) : W p l e R s m args below meth c H locs cells slots Q (F0 m pc ls st0) := by
  intro T hT X
  rcases hr T hT X with ⟨v, st₀, t, T', L, h0, X', hL, e1, e2, ⟨⟨r, u, hv, hp, hb⟩, hF⟩, st⟩ | ⟨q, st₀, t, T', L, E, ce, h0, X', hL, e1, e2, ⟨u, hp, hb, hF⟩, hce, hcv, hcl, st⟩
  · cases hv
    obtain ⟨k1, k2, k3⟩ := vx_keep h0 e1 hS hA hf hL hF
    obtain ⟨t2, a1, b1⟩ := kk r u t T'.heap (locs ++ L) e1.symm (by rw [← e2]; exact X'.warmed.alike) hp hb k1 k2 k3 T' rfl X'
    exact ⟨t2, st t2 a1, b1⟩
  · obtain ⟨k1, k2, k3⟩ := vx_keep h0 e1 hS hAX hf hL hF
    obtain ⟨t2, a1, b1⟩ := kx E ce q u t T'.heap (locs ++ L) e1.symm (by rw [← e2]; exact X'.warmed.alike) hp hb k1 k2 k3 (by rw [e1]; exact hce) hcv hcl T' rfl X'
    exact ⟨t2, st.trans a1, b1⟩
end
/-! ===== END ===== -/
/-! ===== BEGIN .. by an interface, an object ===== -/
section
variable {p : Program} {l : Launch} {e : Env} {R : Room} {s : State} {m : MethodId} {args : Array Value} {below : List Frame} {meth : Method} {c : Code} {H : Heap} {locs : List Loc} {cells slots : Nat} {Q : State → Prop}
variable {mc ms : Nat} {free : Addr → Prop} {A0 A1 : Nat → Prop} {H0 : Heap} {a : Array Value} {pc : Nat} {ls : Array Slot} {st0 rest : List Value}
theorem vx_callFq {S SX : Type} {post : Option Nat → S → Prop} {px : SX → Prop} {B : S → State → Prop} {BX : String → SX → State → Prop} {AX : Nat → Prop} (hr : vx_Run5 p l e R s m args below meth c H locs cells slots mc ms (F0 m pc ls st0) rest (va_Qq post B A1 a) (vx_X px BX AX) free) (hS : va_S A0 H0 H locs) (hA : ∀ q, q < H.size → A1 q → A0 q) (hf : ∀ q, free q → A0 q) (hAX : ∀ q, q < H.size → AX q → A0 q)
    (kx : ∀ (E : String) (ce : Cell) (q9 : Addr) (u : SX) (t : State) (H1 : Heap) (locs1 : List Loc), t.heap = H1 → s.vm.Alike t.vm → px u → BX E u t → H.size ≤ H1.size → (∀ q : Nat, q < H.size → ¬ AX q → H1[q]? = H[q]?) → va_S A0 H0 H1 locs1 → H1[q9]? = some ce → ce.vm = .none → s.vm.findClass E = some ce.cls → vx_W p l e R s m args below meth c H1 locs1 (cells + mc) (slots + ms) Q (F0 m pc ls rest) q9)
    (kk : ∀ (r : Option Nat) (u : S) (t : State) (H1 : Heap) (locs1 : List Loc), t.heap = H1 → s.vm.Alike t.vm → post r u → B u t → H.size ≤ H1.size → (∀ q : Nat, q < H.size → ¬ A1 q → H1[q]? = H[q]?) → va_S A0 H0 H1 locs1 → W p l e R s m args below meth c H1 locs1 (cells + mc) (slots + ms) Q (F0 m (pc + 5) ls (va_rf r :: rest))) : W p l e R s m args below meth c H locs cells slots Q (F0 m pc ls st0) := by
  intro T hT X
  rcases hr T hT X with ⟨v, st₀, t, T', L, h0, X', hL, e1, e2, ⟨⟨r, u, hv, hp, hb⟩, hF⟩, st⟩ | ⟨q, st₀, t, T', L, E, ce, h0, X', hL, e1, e2, ⟨u, hp, hb, hF⟩, hce, hcv, hcl, st⟩
  · cases hv
    obtain ⟨k1, k2, k3⟩ := vx_keep h0 e1 hS hA hf hL hF
    obtain ⟨t2, a1, b1⟩ := kk r u t T'.heap (locs ++ L) e1.symm (by rw [← e2]; exact X'.warmed.alike) hp hb k1 k2 k3 T' rfl X'
    exact ⟨t2, st t2 a1, b1⟩
  · obtain ⟨k1, k2, k3⟩ := vx_keep h0 e1 hS hAX hf hL hF
    obtain ⟨t2, a1, b1⟩ := kx E ce q u t T'.heap (locs ++ L) e1.symm (by rw [← e2]; exact X'.warmed.alike) hp hb k1 k2 k3 (by rw [e1]; exact hce) hcv hcl T' rfl X'
    exact ⟨t2, st.trans a1, b1⟩
end
/-! ===== END ===== -/
/-! ===== BEGIN .. by an interface, a constant ===== -/
section
variable {p : Program} {l : Launch} {e : Env} {R : Room} {s : State} {m : MethodId} {args : Array Value} {below : List Frame} {meth : Method} {c : Code} {H : Heap} {locs : List Loc} {cells slots : Nat} {Q : State → Prop}
variable {mc ms : Nat} {free : Addr → Prop} {A0 A1 : Nat → Prop} {H0 : Heap} {a : Array Value} {pc : Nat} {ls : Array Slot} {st0 rest : List Value}
theorem vx_callFe {ad : Nat → Nat} {S SX : Type} {post : Option Nat → S → Prop} {px : SX → Prop} {B : S → State → Prop} {BX : String → SX → State → Prop} {AX : Nat → Prop} (hr : vx_Run5 p l e R s m args below meth c H locs cells slots mc ms (F0 m pc ls st0) rest (va_Qe ad post B A1 a) (vx_X px BX AX) free) (hS : va_S A0 H0 H locs) (hA : ∀ q, q < H.size → A1 q → A0 q) (hf : ∀ q, free q → A0 q) (hAX : ∀ q, q < H.size → AX q → A0 q)
    (kx : ∀ (E : String) (ce : Cell) (q9 : Addr) (u : SX) (t : State) (H1 : Heap) (locs1 : List Loc), t.heap = H1 → s.vm.Alike t.vm → px u → BX E u t → H.size ≤ H1.size → (∀ q : Nat, q < H.size → ¬ AX q → H1[q]? = H[q]?) → va_S A0 H0 H1 locs1 → H1[q9]? = some ce → ce.vm = .none → s.vm.findClass E = some ce.cls → vx_W p l e R s m args below meth c H1 locs1 (cells + mc) (slots + ms) Q (F0 m pc ls rest) q9)
    (kk : ∀ (r : Option Nat) (u : S) (t : State) (H1 : Heap) (locs1 : List Loc), t.heap = H1 → s.vm.Alike t.vm → post r u → B u t → H.size ≤ H1.size → (∀ q : Nat, q < H.size → ¬ A1 q → H1[q]? = H[q]?) → va_S A0 H0 H1 locs1 → W p l e R s m args below meth c H1 locs1 (cells + mc) (slots + ms) Q (F0 m (pc + 5) ls (va_re ad r :: rest))) : W p l e R s m args below meth c H locs cells slots Q (F0 m pc ls st0) := by
  intro T hT X
  rcases hr T hT X with ⟨v, st₀, t, T', L, h0, X', hL, e1, e2, ⟨⟨r, u, hv, hp, hb⟩, hF⟩, st⟩ | ⟨q, st₀, t, T', L, E, ce, h0, X', hL, e1, e2, ⟨u, hp, hb, hF⟩, hce, hcv, hcl, st⟩
  · cases hv
    obtain ⟨k1, k2, k3⟩ := vx_keep h0 e1 hS hA hf hL hF
    obtain ⟨t2, a1, b1⟩ := kk r u t T'.heap (locs ++ L) e1.symm (by rw [← e2]; exact X'.warmed.alike) hp hb k1 k2 k3 T' rfl X'
    exact ⟨t2, st t2 a1, b1⟩
  · obtain ⟨k1, k2, k3⟩ := vx_keep h0 e1 hS hAX hf hL hF
    obtain ⟨t2, a1, b1⟩ := kx E ce q u t T'.heap (locs ++ L) e1.symm (by rw [← e2]; exact X'.warmed.alike) hp hb k1 k2 k3 (by rw [e1]; exact hce) hcv hcl T' rfl X'
    exact ⟨t2, st.trans a1, b1⟩
end
/-! ===== END ===== -/
/-! ===== BEGIN what the machine throws by itself: null at a field, at athrow ===== -/
section VXM2
variable {p : Program} {l : Launch} {e : Env} {R : Room} {s : State} {m : MethodId} {args : Array Value} {below : List Frame} {meth : Method} {c : Code} {H : Heap} {locs : List Loc} {cells slots : Nat}
variable {Q : State → Prop} {cc : ByteArray} {pc : Nat} {ls : Array Slot} {rest : List Value}
theorem vx_getfN {D cl tys} {own ref C : String} {T : u_T} {N ci index : Nat} {Ts : List Cond} (hexec : p.tables.exec = Jvm.exec) (hb : c.code = cc) (hts : ∀ w ∈ Ts, w.before args s = true) (hin : ∀ w ∈ u_ws C T N, w ∈ Ts) (hown : s.vm.findClass own = some m.cls) (hK : va_K D cl tys s) (hc : cl[ci]? = some (C, T, N)) (k : Nat) (hk : k < N) (hlink : (Cond.fieldLink own index ref (T k).2.1 (T k).2.2.1).before args s = true) (hsame : ∀ x, s.fieldFound? (T k).1 (T k).2.1 (T k).2.2.1 = some x → s.fieldFound? ref (T k).2.1 (T k).2.2.1 = some x) (hdg : decode cc pc = .ok (.getfield index, 3)) (kk : vx_NoteN p l e R s m args below meth c H locs cells slots Q (F0 m pc ls rest)) : W p l e R s m args below meth c H locs cells slots Q (F0 m pc ls (.null :: rest)) := by
  obtain ⟨hS, hfc, kC, hkC, -⟩ := hK.1 ci _ hc
  obtain ⟨cf, kf, fi, f, hi, -⟩ := hS k hk
  intro U hU X
  obtain ⟨vm', X1, st1⟩ := X.getfieldNull hexec hown hlink (hsame _ hi) (u_facts hfc hkC (u_lays hts hin hk) hi).1 (g := F0 m pc ls (.null :: rest)) rfl (rest := rest) rfl (by rw [hb]; exact hdg)
  obtain ⟨t, st, q⟩ := kk (U.setVm vm') hU X1
  exact ⟨t, st1 t st, q⟩
theorem vx_getfNN {D cl tys} {own ref C host : String} {T : u_T} {N ci index : Nat} {Ts : List Cond} (hexec : p.tables.exec = Jvm.exec) (hb : c.code = cc) (hts : ∀ w ∈ Ts, w.before args s = true) (hin : ∀ w ∈ u_ws C T N, w ∈ Ts) (hown : s.vm.findClass own = some m.cls) (hK : va_K D cl tys s) (hc : cl[ci]? = some (C, T, N)) (k : Nat) (hk : k < N) (hlink : (Cond.fieldLinkNest own index ref (T k).2.1 (T k).2.2.1 host).before args s = true) (hsame : ∀ x, s.fieldFound? (T k).1 (T k).2.1 (T k).2.2.1 = some x → s.fieldFound? ref (T k).2.1 (T k).2.2.1 = some x) (hdg : decode cc pc = .ok (.getfield index, 3)) (kk : vx_NoteN p l e R s m args below meth c H locs cells slots Q (F0 m pc ls rest)) : W p l e R s m args below meth c H locs cells slots Q (F0 m pc ls (.null :: rest)) := by
  obtain ⟨hS, hfc, kC, hkC, -⟩ := hK.1 ci _ hc
  obtain ⟨cf, kf, fi, f, hi, -⟩ := hS k hk
  intro U hU X
  obtain ⟨vm', X1, st1⟩ := X.getfieldNullNest hexec hown hlink (hsame _ hi) (u_facts hfc hkC (u_lays hts hin hk) hi).1 (g := F0 m pc ls (.null :: rest)) rfl (rest := rest) rfl (by rw [hb]; exact hdg)
  obtain ⟨t, st, q⟩ := kk (U.setVm vm') hU X1
  exact ⟨t, st1 t st, q⟩
theorem vx_putfN {D cl tys} {own ref C : String} {T : u_T} {N ci index : Nat} {Ts : List Cond} (hexec : p.tables.exec = Jvm.exec) (hb : c.code = cc) (hts : ∀ w ∈ Ts, w.before args s = true) (hin : ∀ w ∈ u_ws C T N, w ∈ Ts) (hown : s.vm.findClass own = some m.cls) (hK : va_K D cl tys s) (hc : cl[ci]? = some (C, T, N)) (k : Nat) (hk : k < N) (hlink : (Cond.fieldLink own index ref (T k).2.1 (T k).2.2.1).before args s = true) (hsame : ∀ x, s.fieldFound? (T k).1 (T k).2.1 (T k).2.2.1 = some x → s.fieldFound? ref (T k).2.1 (T k).2.2.1 = some x) (hfin : (T k).2.2.2 = false) {v : Value} (hdg : decode cc pc = .ok (.putfield index, 3)) (kk : vx_NoteN p l e R s m args below meth c H locs cells slots Q (F0 m pc ls rest)) : W p l e R s m args below meth c H locs cells slots Q (F0 m pc ls (v :: .null :: rest)) := by
  obtain ⟨hS, hfc, kC, hkC, -⟩ := hK.1 ci _ hc
  obtain ⟨cf, kf, fi, f, hi, -⟩ := hS k hk
  have hlay := hts _ (hin _ (u_in_lay hk))
  unfold u_lay at hlay
  rw [if_neg (by rw [hfin]; decide)] at hlay
  obtain ⟨c9, k9, cf9, kf9, fi9, f9, -, -, hi9, hst9, hnf9, -⟩ := Cond.lays_spec hlay
  cases hi.symm.trans hi9
  intro U hU X
  obtain ⟨vm', X1, st1⟩ := X.putfieldNull hexec hown hlink (hsame _ hi) hst9 hnf9 (g := F0 m pc ls (v :: .null :: rest)) rfl (v := v) (rest := rest) rfl (by rw [hb]; exact hdg)
  obtain ⟨t, st, q⟩ := kk (U.setVm vm') hU X1
  exact ⟨t, st1 t st, q⟩
theorem vx_putfNN {D cl tys} {own ref C host : String} {T : u_T} {N ci index : Nat} {Ts : List Cond} (hexec : p.tables.exec = Jvm.exec) (hb : c.code = cc) (hts : ∀ w ∈ Ts, w.before args s = true) (hin : ∀ w ∈ u_ws C T N, w ∈ Ts) (hown : s.vm.findClass own = some m.cls) (hK : va_K D cl tys s) (hc : cl[ci]? = some (C, T, N)) (k : Nat) (hk : k < N) (hlink : (Cond.fieldLinkNest own index ref (T k).2.1 (T k).2.2.1 host).before args s = true) (hsame : ∀ x, s.fieldFound? (T k).1 (T k).2.1 (T k).2.2.1 = some x → s.fieldFound? ref (T k).2.1 (T k).2.2.1 = some x) (hfin : (T k).2.2.2 = false) {v : Value} (hdg : decode cc pc = .ok (.putfield index, 3)) (kk : vx_NoteN p l e R s m args below meth c H locs cells slots Q (F0 m pc ls rest)) : W p l e R s m args below meth c H locs cells slots Q (F0 m pc ls (v :: .null :: rest)) := by
  obtain ⟨hS, hfc, kC, hkC, -⟩ := hK.1 ci _ hc
  obtain ⟨cf, kf, fi, f, hi, -⟩ := hS k hk
  have hlay := hts _ (hin _ (u_in_lay hk))
  unfold u_lay at hlay
  rw [if_neg (by rw [hfin]; decide)] at hlay
  obtain ⟨c9, k9, cf9, kf9, fi9, f9, -, -, hi9, hst9, hnf9, -⟩ := Cond.lays_spec hlay
  cases hi.symm.trans hi9
  intro U hU X
  obtain ⟨vm', X1, st1⟩ := X.putfieldNullNest hexec hown hlink (hsame _ hi) hst9 hnf9 (g := F0 m pc ls (v :: .null :: rest)) rfl (v := v) (rest := rest) rfl (by rw [hb]; exact hdg)
  obtain ⟨t, st, q⟩ := kk (U.setVm vm') hU X1
  exact ⟨t, st1 t st, q⟩
theorem vx_athrowN (hexec : p.tables.exec = Jvm.exec) (hb : c.code = cc) (hdg : decode cc pc = .ok (.athrow, 1)) (k : vx_NoteN p l e R s m args below meth c H locs cells slots Q (F0 m pc ls rest)) : W p l e R s m args below meth c H locs cells slots Q (F0 m pc ls (.null :: rest)) := by
  intro T hT X
  obtain ⟨t, st, q⟩ := k T hT X
  exact ⟨t, X.athrowNull hexec (g := F0 m pc ls (.null :: rest)) rfl (rest := rest) rfl (by rw [hb]; exact hdg) t st, q⟩
end VXM2
/-! ===== END ===== -/
end
section
/-! ===== the small machine's types ===== -/
abbrev zM : Type := Nat → Nat → Int32
/-- counts (places, cells, slots), kinds of the places, references, longs -/
abbrev zG : Type := (Nat × Nat × Nat) × (Nat → Nat × Nat) × (Nat → Nat → Nat) × (Nat → Nat → Int64)
/-- opcode, two numbers, a pool's entry, the pc -/
abbrev zO : Type := Nat × Nat × Nat × Nat × Nat
end
section
/-! ===== printed by program (wip/whole/gen.py) out of the Statement: the methods as blocks of the small machine ===== -/
/-- CC.<init> -/
def zb_0 : List (Nat × List zO) := [
  (0, [(2, 0, 0, 0, 0), (68, 0, 0, 3, 1), (2, 0, 0, 0, 4), (7, 200, 0, 0, 5), (74, 0, 0, 0, 8), (19, 6, 0, 9, 10), (2, 0, 0, 0, 13), (5, 4294967295, 0, 0, 14), (18, 6, 2, 13, 15), (2, 0, 0, 0, 18), (5, 3, 0, 0, 19), (74, 0, 0, 0, 20), (19, 6, 3, 17, 22), (2, 0, 0, 0, 25), (73, 4, 0, 20, 26), (39, 0, 0, 0, 29), (66, 1, 1, 22, 30), (19, 6, 4, 23, 33), (2, 0, 0, 0, 36), (73, 5, 0, 27, 37), (39, 0, 0, 0, 40), (65, 3, 1, 29, 41), (19, 6, 5, 30, 44), (2, 0, 0, 0, 47), (73, 5, 0, 27, 48), (39, 0, 0, 0, 51), (65, 3, 1, 29, 52), (19, 6, 6, 34, 55), (2, 0, 0, 0, 58), (6, 8, 0, 0, 59), (76, 4, 0, 27, 61), (19, 6, 7, 37, 64), (2, 0, 0, 0, 67), (73, 0, 0, 41, 68), (39, 0, 0, 0, 71), (66, 6, 1, 43, 72), (19, 6, 10, 44, 75), (5, 0, 0, 0, 78), (10, 1, 0, 0, 79), (55, 80, 0, 0, 80)]),
  (80, [(0, 1, 0, 0, 80), (6, 8, 0, 0, 81), (45, 105, 86, 0, 83)]),
  (86, [(2, 0, 0, 0, 86), (17, 6, 7, 37, 87), (0, 1, 0, 0, 90), (73, 5, 0, 27, 91), (39, 0, 0, 0, 94), (65, 3, 1, 29, 95), (35, 0, 0, 0, 98), (15, 1, 1, 0, 99), (54, 80, 0, 0, 102)]),
  (105, [(73, 3, 0, 48, 105), (39, 0, 0, 0, 108), (66, 2, 1, 50, 109), (12, 1, 0, 0, 112), (2, 1, 0, 0, 113), (5, 2, 0, 0, 114), (64, 7, 2, 51, 115), (2, 0, 0, 0, 118), (17, 6, 5, 30, 119), (2, 1, 0, 0, 122), (64, 8, 2, 55, 123), (69, 0, 0, 0, 126)])]
/-- CC$TextReader.<init> -/
def zb_1 : List (Nat × List zO) := [
  (0, [(2, 0, 0, 0, 0), (68, 0, 0, 3, 1), (2, 0, 0, 0, 4), (73, 3, 0, 9, 5), (39, 0, 0, 0, 8), (66, 2, 1, 11, 9), (19, 4, 0, 12, 12), (2, 0, 0, 0, 15), (5, 0, 0, 0, 16), (74, 0, 0, 0, 17), (19, 4, 3, 18, 19), (69, 0, 0, 0, 22)])]
/-- CC$Setup.<init> -/
def zb_2 : List (Nat × List zO) := [
  (0, [(2, 0, 0, 0, 0), (68, 0, 0, 3, 1), (2, 0, 0, 0, 4), (5, 4, 0, 0, 5), (74, 0, 0, 0, 6), (19, 3, 2, 9, 8), (2, 0, 0, 0, 11), (6, 8, 0, 0, 12), (74, 0, 0, 0, 14), (19, 3, 3, 15, 16), (69, 0, 0, 0, 19)])]
/-- CC$World.<init> -/
def zb_3 : List (Nat × List zO) := [
  (0, [(2, 0, 0, 0, 0), (68, 0, 0, 3, 1), (2, 0, 0, 0, 4), (5, 4, 0, 0, 5), (74, 0, 0, 0, 6), (19, 5, 3, 9, 8), (2, 0, 0, 0, 11), (6, 8, 0, 0, 12), (74, 0, 0, 0, 14), (19, 5, 4, 15, 16), (2, 0, 0, 0, 19), (6, 8, 0, 0, 20), (76, 3, 0, 18, 22), (19, 5, 5, 20, 25), (2, 0, 0, 0, 28), (73, 1, 0, 24, 29), (39, 0, 0, 0, 32), (66, 4, 1, 26, 33), (19, 5, 6, 27, 36), (2, 0, 0, 0, 39), (7, 160, 0, 0, 40), (74, 0, 0, 0, 43), (19, 5, 7, 31, 45), (5, 0, 0, 0, 48), (10, 1, 0, 0, 49), (55, 50, 0, 0, 50)]),
  (50, [(0, 1, 0, 0, 50), (6, 8, 0, 0, 51), (45, 76, 56, 0, 53)]),
  (56, [(2, 0, 0, 0, 56), (17, 5, 5, 20, 57), (0, 1, 0, 0, 60), (73, 2, 0, 18, 61), (39, 0, 0, 0, 64), (0, 1, 0, 0, 65), (65, 5, 2, 34, 66), (35, 0, 0, 0, 69), (15, 1, 1, 0, 70), (54, 50, 0, 0, 73)]),
  (76, [(69, 0, 0, 0, 76)])]
/-- CC$Mail.<init> -/
def zb_4 : List (Nat × List zO) := [
  (0, [(2, 0, 0, 0, 0), (68, 0, 0, 3, 1), (2, 0, 0, 0, 4), (7, 7200, 0, 0, 5), (74, 0, 0, 0, 8), (19, 1, 0, 9, 10), (2, 0, 0, 0, 13), (6, 8, 0, 0, 14), (74, 0, 0, 0, 16), (19, 1, 4, 15, 18), (2, 0, 0, 0, 21), (6, 8, 0, 0, 22), (74, 0, 0, 0, 24), (19, 1, 5, 18, 26), (69, 0, 0, 0, 29)])]
/-- CC$Member.<init> -/
def zb_5 : List (Nat × List zO) := [
  (0, [(2, 0, 0, 0, 0), (68, 0, 0, 3, 1), (2, 0, 0, 0, 4), (6, 6, 0, 0, 5), (74, 0, 0, 0, 7), (19, 2, 12, 9, 9), (2, 0, 0, 0, 12), (6, 6, 0, 0, 13), (74, 0, 0, 0, 15), (19, 2, 13, 15, 17), (2, 0, 0, 0, 20), (6, 7, 0, 0, 21), (74, 0, 0, 0, 23), (19, 2, 14, 18, 25), (2, 0, 0, 0, 28), (0, 1, 0, 0, 29), (18, 2, 0, 21, 30), (69, 0, 0, 0, 33)])]
/-- CC$Draws.<init> -/
def zb_6 : List (Nat × List zO) := [
  (0, [(2, 0, 0, 0, 0), (68, 0, 0, 1, 1), (69, 0, 0, 0, 4)])]
/-- CC$Setup.plain -/
def zb_7 : List (Nat × List zO) := [
  (0, [(2, 0, 0, 0, 0), (0, 1, 0, 0, 1), (18, 3, 0, 18, 2), (2, 0, 0, 0, 5), (5, 3, 0, 0, 6), (18, 3, 1, 22, 7), (2, 0, 0, 0, 10), (17, 3, 2, 9, 11), (5, 0, 0, 0, 14), (6, 8, 0, 0, 15), (33, 0, 0, 0, 17), (2, 0, 0, 0, 18), (17, 3, 2, 9, 19), (5, 1, 0, 0, 22), (5, 4, 0, 0, 23), (33, 0, 0, 0, 24), (2, 0, 0, 0, 25), (17, 3, 2, 9, 26), (5, 2, 0, 0, 29), (5, 3, 0, 0, 30), (33, 0, 0, 0, 31), (2, 0, 0, 0, 32), (17, 3, 2, 9, 33), (5, 3, 0, 0, 36), (5, 1, 0, 0, 37), (33, 0, 0, 0, 38), (5, 0, 0, 0, 39), (10, 2, 0, 0, 40), (55, 41, 0, 0, 41)]),
  (41, [(0, 2, 0, 0, 41), (6, 8, 0, 0, 42), (45, 62, 47, 0, 44)]),
  (47, [(2, 0, 0, 0, 47), (17, 3, 3, 15, 48), (0, 2, 0, 0, 51), (0, 1, 0, 0, 52), (0, 2, 0, 0, 53), (21, 0, 0, 0, 54), (33, 0, 0, 0, 55), (15, 2, 1, 0, 56), (54, 41, 0, 0, 59)]),
  (62, [(69, 0, 0, 0, 62)])]
/-- CC$World.begin -/
def zb_8 : List (Nat × List zO) := [
  (0, [(2, 0, 0, 0, 0), (2, 1, 0, 0, 1), (16, 3, 0, 37, 2), (18, 5, 0, 43, 5), (2, 0, 0, 0, 8), (2, 1, 0, 0, 9), (16, 3, 1, 44, 10), (18, 5, 1, 47, 13), (2, 0, 0, 0, 16), (5, 0, 0, 0, 17), (18, 5, 2, 48, 18), (2, 1, 0, 0, 21), (17, 3, 2, 51, 22), (5, 0, 0, 0, 25), (2, 0, 0, 0, 26), (17, 5, 3, 9, 27), (5, 0, 0, 0, 30), (5, 4, 0, 0, 31), (80, 0, 0, 52, 32), (2, 0, 0, 0, 35), (17, 5, 6, 27, 36), (64, 9, 1, 58, 39), (2, 0, 0, 0, 42), (64, 11, 1, 61, 43), (41, 0, 0, 0, 46), (5, 0, 0, 0, 47), (10, 2, 0, 0, 48), (55, 49, 0, 0, 49)]),
  (49, [(0, 2, 0, 0, 49), (2, 0, 0, 0, 50), (16, 5, 0, 43, 51), (45, 139, 57, 0, 54)]),
  (57, [(2, 0, 0, 0, 57), (17, 5, 5, 20, 58), (0, 2, 0, 0, 61), (34, 0, 0, 0, 62), (12, 3, 0, 0, 63), (2, 3, 0, 0, 64), (2, 1, 0, 0, 65), (17, 3, 3, 65, 66), (0, 2, 0, 0, 69), (32, 0, 0, 0, 70), (18, 2, 1, 68, 71), (2, 3, 0, 0, 74), (5, 0, 0, 0, 75), (18, 2, 2, 71, 76), (5, 0, 0, 0, 79), (11, 4, 0, 0, 80), (55, 82, 0, 0, 82)]),
  (82, [(1, 4, 0, 0, 82), (2, 0, 0, 0, 84), (16, 5, 0, 43, 85), (45, 124, 91, 0, 88)]),
  (91, [(2, 1, 0, 0, 91), (17, 3, 3, 65, 92), (1, 4, 0, 0, 95), (32, 0, 0, 0, 97), (2, 3, 0, 0, 98), (16, 2, 1, 68, 99), (47, 118, 105, 0, 102)]),
  (105, [(2, 3, 0, 0, 105), (39, 0, 0, 0, 106), (16, 2, 2, 71, 107), (5, 1, 0, 0, 110), (1, 4, 0, 0, 111), (26, 0, 0, 0, 113), (24, 0, 0, 0, 114), (18, 2, 2, 71, 115), (55, 118, 0, 0, 118)]),
  (118, [(15, 4, 1, 0, 118), (54, 82, 0, 0, 121)]),
  (124, [(2, 3, 0, 0, 124), (64, 14, 1, 74, 125), (2, 0, 0, 0, 128), (2, 3, 0, 0, 129), (64, 15, 2, 75, 130), (15, 2, 1, 0, 133), (54, 49, 0, 0, 136)]),
  (139, [(2, 0, 0, 0, 139), (5, 0, 0, 0, 140), (18, 5, 8, 79, 141), (69, 0, 0, 0, 144)])]
/-- CC$Mail.wipe -/
def zb_9 : List (Nat × List zO) := [
  (0, [(2, 0, 0, 0, 0), (5, 0, 0, 0, 1), (18, 1, 1, 21, 2), (2, 0, 0, 0, 5), (5, 0, 0, 0, 6), (18, 1, 2, 25, 7), (2, 0, 0, 0, 10), (5, 0, 0, 0, 11), (18, 1, 3, 28, 12), (2, 0, 0, 0, 15), (17, 1, 4, 15, 16), (5, 0, 0, 0, 19), (63, 10, 2, 31, 20), (2, 0, 0, 0, 23), (17, 1, 5, 18, 24), (5, 0, 0, 0, 27), (63, 10, 2, 31, 28), (69, 0, 0, 0, 31)])]
/-- java/util/Arrays.fill -/
def zb_10 : List (Nat × List zO) := [
  (0, [(5, 0, 0, 0, 0), (10, 2, 0, 0, 1), (2, 0, 0, 0, 2), (36, 0, 0, 0, 3), (10, 3, 0, 0, 4), (55, 5, 0, 0, 5)]),
  (5, [(0, 2, 0, 0, 5), (0, 3, 0, 0, 6), (45, 20, 10, 0, 7)]),
  (10, [(2, 0, 0, 0, 10), (0, 2, 0, 0, 11), (0, 1, 0, 0, 12), (33, 0, 0, 0, 13), (15, 2, 1, 0, 14), (54, 5, 0, 0, 17)]),
  (20, [(69, 0, 0, 0, 20)])]
/-- CC$World.mend -/
def zb_11 : List (Nat × List zO) := [
  (0, [(5, 0, 0, 0, 0), (10, 1, 0, 0, 1), (5, 0, 0, 0, 2), (10, 2, 0, 0, 3), (55, 4, 0, 0, 4)]),
  (4, [(0, 2, 0, 0, 4), (2, 0, 0, 0, 5), (16, 5, 0, 43, 6), (45, 52, 12, 0, 9)]),
  (12, [(2, 0, 0, 0, 12), (64, 12, 1, 88, 13), (5, 1, 0, 0, 16), (0, 2, 0, 0, 17), (26, 0, 0, 0, 18), (5, 4294967295, 0, 0, 19), (25, 0, 0, 0, 20), (23, 0, 0, 0, 21), (10, 3, 0, 0, 22), (0, 1, 0, 0, 23), (0, 3, 0, 0, 24), (2, 0, 0, 0, 25), (17, 5, 4, 15, 26), (0, 2, 0, 0, 29), (32, 0, 0, 0, 30), (5, 4294967295, 0, 0, 31), (25, 0, 0, 0, 32), (23, 0, 0, 0, 33), (63, 13, 1, 91, 34), (20, 0, 0, 0, 37), (10, 1, 0, 0, 38), (2, 0, 0, 0, 39), (17, 5, 4, 15, 40), (0, 2, 0, 0, 43), (0, 3, 0, 0, 44), (33, 0, 0, 0, 45), (15, 2, 1, 0, 46), (54, 4, 0, 0, 49)]),
  (52, [(0, 1, 0, 0, 52), (5, 2, 0, 0, 53), (29, 0, 0, 0, 54), (70, 0, 0, 0, 55)])]
/-- CC$World.all -/
def zb_12 : List (Nat × List zO) := [
  (0, [(5, 1, 0, 0, 0), (2, 0, 0, 0, 1), (16, 5, 0, 43, 2), (26, 0, 0, 0, 5), (5, 1, 0, 0, 6), (21, 0, 0, 0, 7), (70, 0, 0, 0, 8)])]
/-- java/lang/Integer.bitCount -/
def zb_13 : List (Nat × List zO) := [
  (0, [(0, 0, 0, 0, 0), (0, 0, 0, 0, 1), (5, 1, 0, 0, 2), (28, 0, 0, 0, 3), (9, 1431655765, 0, 265, 4), (23, 0, 0, 0, 7), (21, 0, 0, 0, 8), (10, 0, 0, 0, 9), (0, 0, 0, 0, 10), (9, 858993459, 0, 266, 11), (23, 0, 0, 0, 14), (0, 0, 0, 0, 15), (5, 2, 0, 0, 16), (28, 0, 0, 0, 17), (9, 858993459, 0, 266, 18), (23, 0, 0, 0, 21), (20, 0, 0, 0, 22), (10, 0, 0, 0, 23), (0, 0, 0, 0, 24), (0, 0, 0, 0, 25), (5, 4, 0, 0, 26), (28, 0, 0, 0, 27), (20, 0, 0, 0, 28), (9, 252645135, 0, 267, 29), (23, 0, 0, 0, 32), (10, 0, 0, 0, 33), (0, 0, 0, 0, 34), (0, 0, 0, 0, 35), (6, 8, 0, 0, 36), (28, 0, 0, 0, 38), (20, 0, 0, 0, 39), (10, 0, 0, 0, 40), (0, 0, 0, 0, 41), (0, 0, 0, 0, 42), (6, 16, 0, 0, 43), (28, 0, 0, 0, 45), (20, 0, 0, 0, 46), (10, 0, 0, 0, 47), (0, 0, 0, 0, 48), (6, 63, 0, 0, 49), (23, 0, 0, 0, 51), (70, 0, 0, 0, 52)])]
/-- CC$Member.wipe -/
def zb_14 : List (Nat × List zO) := [
  (0, [(2, 0, 0, 0, 0), (5, 0, 0, 0, 1), (18, 2, 5, 25, 2), (2, 0, 0, 0, 5), (5, 0, 0, 0, 6), (18, 2, 6, 28, 7), (2, 0, 0, 0, 10), (17, 2, 12, 9, 11), (5, 0, 0, 0, 14), (63, 10, 2, 31, 15), (2, 0, 0, 0, 18), (17, 2, 13, 15, 19), (5, 0, 0, 0, 22), (63, 10, 2, 31, 23), (2, 0, 0, 0, 26), (17, 2, 14, 18, 27), (5, 0, 0, 0, 30), (63, 10, 2, 31, 31), (69, 0, 0, 0, 34)])]
/-- CC$World.goAlone -/
def zb_15 : List (Nat × List zO) := [
  (0, [(2, 1, 0, 0, 0), (39, 0, 0, 0, 1), (16, 2, 5, 228, 2), (5, 1, 0, 0, 5), (20, 0, 0, 0, 6), (18, 2, 5, 228, 7), (2, 0, 0, 0, 10), (2, 1, 0, 0, 11), (6, 10, 0, 0, 12), (2, 1, 0, 0, 14), (16, 2, 5, 228, 15), (22, 0, 0, 0, 18), (2, 1, 0, 0, 19), (16, 2, 0, 196, 20), (20, 0, 0, 0, 23), (64, 16, 3, 202, 24), (2, 1, 0, 0, 27), (2, 1, 0, 0, 28), (16, 2, 0, 196, 29), (18, 2, 4, 163, 32), (2, 1, 0, 0, 35), (64, 17, 1, 205, 36), (2, 1, 0, 0, 39), (5, 0, 0, 0, 40), (18, 2, 3, 97, 41), (2, 0, 0, 0, 44), (2, 1, 0, 0, 45), (5, 1, 0, 0, 46), (2, 0, 0, 0, 47), (17, 5, 3, 9, 48), (5, 0, 0, 0, 51), (32, 0, 0, 0, 52), (64, 19, 4, 190, 53), (2, 1, 0, 0, 56), (17, 2, 14, 115, 57), (5, 3, 0, 0, 60), (40, 0, 0, 0, 61), (32, 0, 0, 0, 62), (5, 1, 0, 0, 63), (20, 0, 0, 0, 64), (33, 0, 0, 0, 65), (69, 0, 0, 0, 66)])]
/-- CC$World.regroup -/
def zb_16 : List (Nat × List zO) := [
  (0, [(2, 1, 0, 0, 0), (16, 2, 6, 169, 1), (0, 2, 0, 0, 4), (43, 9, 8, 0, 5)]),
  (8, [(69, 0, 0, 0, 8)]),
  (9, [(2, 0, 0, 0, 9), (16, 5, 8, 79, 10), (6, 40, 0, 0, 13), (30, 0, 0, 0, 15), (5, 4, 0, 0, 16), (22, 0, 0, 0, 17), (10, 3, 0, 0, 18), (2, 0, 0, 0, 19), (17, 5, 7, 31, 20), (0, 3, 0, 0, 23), (2, 0, 0, 0, 24), (16, 5, 2, 48, 25), (33, 0, 0, 0, 28), (2, 0, 0, 0, 29), (17, 5, 7, 31, 30), (0, 3, 0, 0, 33), (5, 1, 0, 0, 34), (20, 0, 0, 0, 35), (2, 1, 0, 0, 36), (16, 2, 0, 196, 37), (33, 0, 0, 0, 40), (2, 0, 0, 0, 41), (17, 5, 7, 31, 42), (0, 3, 0, 0, 45), (5, 2, 0, 0, 46), (20, 0, 0, 0, 47), (2, 1, 0, 0, 48), (16, 2, 6, 169, 49), (33, 0, 0, 0, 52), (2, 0, 0, 0, 53), (17, 5, 7, 31, 54), (0, 3, 0, 0, 57), (5, 3, 0, 0, 58), (20, 0, 0, 0, 59), (0, 2, 0, 0, 60), (33, 0, 0, 0, 61), (2, 0, 0, 0, 62), (39, 0, 0, 0, 63), (16, 5, 8, 79, 64), (5, 1, 0, 0, 67), (20, 0, 0, 0, 68), (18, 5, 8, 79, 69), (2, 1, 0, 0, 72), (0, 2, 0, 0, 73), (18, 2, 6, 169, 74), (69, 0, 0, 0, 77)])]
/-- CC$Member.standAlone -/
def zb_17 : List (Nat × List zO) := [
  (0, [(2, 0, 0, 0, 0), (2, 0, 0, 0, 1), (64, 18, 1, 70, 2), (18, 2, 7, 49, 5), (2, 0, 0, 0, 8), (5, 0, 0, 0, 9), (18, 2, 8, 52, 10), (2, 0, 0, 0, 13), (5, 0, 0, 0, 14), (18, 2, 9, 55, 15), (69, 0, 0, 0, 18)])]
/-- CC$Member.bit -/
def zb_18 : List (Nat × List zO) := [
  (0, [(5, 1, 0, 0, 0), (2, 0, 0, 0, 1), (16, 2, 0, 21, 2), (26, 0, 0, 0, 5), (70, 0, 0, 0, 6)])]
/-- CC$World.await -/
def zb_19 : List (Nat × List zO) := [
  (0, [(2, 1, 0, 0, 0), (0, 2, 0, 0, 1), (18, 2, 10, 100, 2), (2, 1, 0, 0, 5), (2, 0, 0, 0, 6), (16, 5, 2, 48, 7), (0, 3, 0, 0, 10), (20, 0, 0, 0, 11), (18, 2, 11, 141, 12), (69, 0, 0, 0, 15)])]
/-- CC.feed -/
def zb_20 : List (Nat × List zO) := [
  (0, [(2, 0, 0, 0, 0), (16, 6, 1, 59, 1), (6, 20, 0, 0, 4), (20, 0, 0, 0, 6), (7, 200, 0, 0, 7), (47, 15, 13, 0, 10)]),
  (13, [(5, 4294967295, 0, 0, 13), (70, 0, 0, 0, 14)]),
  (15, [(2, 0, 0, 0, 15), (0, 1, 0, 0, 16), (64, 21, 2, 62, 17), (2, 0, 0, 0, 20), (0, 2, 0, 0, 21), (64, 21, 2, 62, 22), (2, 0, 0, 0, 25), (0, 3, 0, 0, 26), (64, 21, 2, 62, 27), (2, 0, 0, 0, 30), (1, 4, 0, 0, 31), (64, 21, 2, 62, 33), (2, 0, 0, 0, 36), (1, 5, 0, 0, 37), (64, 21, 2, 62, 39), (2, 0, 0, 0, 42), (16, 6, 1, 59, 43), (70, 0, 0, 0, 46)])]
/-- CC.feedNumber -/
def zb_21 : List (Nat × List zO) := [
  (0, [(6, 24, 0, 0, 0), (10, 2, 0, 0, 2), (55, 3, 0, 0, 3)]),
  (3, [(0, 2, 0, 0, 3), (50, 49, 7, 0, 4)]),
  (7, [(2, 0, 0, 0, 7), (16, 6, 1, 59, 8), (7, 200, 0, 0, 11), (45, 49, 17, 0, 14)]),
  (17, [(2, 0, 0, 0, 17), (17, 6, 0, 9, 18), (2, 0, 0, 0, 21), (16, 6, 1, 59, 22), (0, 1, 0, 0, 25), (0, 2, 0, 0, 26), (28, 0, 0, 0, 27), (7, 255, 0, 0, 28), (23, 0, 0, 0, 31), (33, 0, 0, 0, 32), (2, 0, 0, 0, 33), (39, 0, 0, 0, 34), (16, 6, 1, 59, 35), (5, 1, 0, 0, 38), (20, 0, 0, 0, 39), (18, 6, 1, 59, 40), (15, 2, 4294967288, 0, 43), (54, 3, 0, 0, 46)]),
  (49, [(69, 0, 0, 0, 49)])]
/-- CC.fault -/
def zb_22 : List (Nat × List zO) := [
  (0, [(2, 0, 0, 0, 0), (16, 6, 2, 13, 1), (70, 0, 0, 0, 4)])]
/-- CC.heal -/
def zb_23 : List (Nat × List zO) := [
  (0, [(2, 0, 0, 0, 0), (64, 24, 1, 87, 1), (2, 0, 0, 0, 4), (17, 6, 5, 30, 5), (64, 11, 1, 101, 8), (70, 0, 0, 0, 11)])]
/-- CC.keepPast -/
def zb_24 : List (Nat × List zO) := [
  (0, [(2, 0, 0, 0, 0), (17, 6, 7, 37, 1), (2, 0, 0, 0, 4), (16, 6, 8, 146, 5), (34, 0, 0, 0, 8), (2, 0, 0, 0, 9), (17, 6, 5, 30, 10), (64, 25, 2, 149, 13), (2, 0, 0, 0, 16), (2, 0, 0, 0, 17), (16, 6, 8, 146, 18), (5, 1, 0, 0, 21), (20, 0, 0, 0, 22), (6, 8, 0, 0, 23), (30, 0, 0, 0, 25), (18, 6, 8, 146, 26), (2, 0, 0, 0, 29), (16, 6, 9, 77, 30), (6, 8, 0, 0, 33), (45, 48, 38, 0, 35)]),
  (38, [(2, 0, 0, 0, 38), (39, 0, 0, 0, 39), (16, 6, 9, 77, 40), (5, 1, 0, 0, 43), (20, 0, 0, 0, 44), (18, 6, 9, 77, 45), (55, 48, 0, 0, 48)]),
  (48, [(69, 0, 0, 0, 48)])]
/-- CC$World.copyFrom -/
def zb_25 : List (Nat × List zO) := [
  (0, [(2, 0, 0, 0, 0), (2, 1, 0, 0, 1), (16, 5, 0, 43, 2), (18, 5, 0, 43, 5), (2, 0, 0, 0, 8), (2, 1, 0, 0, 9), (16, 5, 1, 47, 10), (18, 5, 1, 47, 13), (2, 0, 0, 0, 16), (2, 1, 0, 0, 17), (16, 5, 2, 48, 18), (18, 5, 2, 48, 21), (2, 0, 0, 0, 24), (2, 1, 0, 0, 25), (16, 5, 8, 79, 26), (18, 5, 8, 79, 29), (2, 1, 0, 0, 32), (17, 5, 3, 9, 33), (5, 0, 0, 0, 36), (2, 0, 0, 0, 37), (17, 5, 3, 9, 38), (5, 0, 0, 0, 41), (5, 4, 0, 0, 42), (80, 0, 0, 52, 43), (2, 1, 0, 0, 46), (17, 5, 4, 15, 47), (5, 0, 0, 0, 50), (2, 0, 0, 0, 51), (17, 5, 4, 15, 52), (5, 0, 0, 0, 55), (6, 8, 0, 0, 56), (80, 0, 0, 52, 58), (2, 1, 0, 0, 61), (17, 5, 7, 31, 62), (5, 0, 0, 0, 65), (2, 0, 0, 0, 66), (17, 5, 7, 31, 67), (5, 0, 0, 0, 70), (2, 0, 0, 0, 71), (17, 5, 7, 31, 72), (36, 0, 0, 0, 75), (80, 0, 0, 52, 76), (2, 0, 0, 0, 79), (17, 5, 6, 27, 80), (2, 1, 0, 0, 83), (17, 5, 6, 27, 84), (64, 26, 2, 82, 87), (5, 0, 0, 0, 90), (10, 2, 0, 0, 91), (55, 92, 0, 0, 92)]),
  (92, [(0, 2, 0, 0, 92), (2, 0, 0, 0, 93), (16, 5, 0, 43, 94), (45, 121, 100, 0, 97)]),
  (100, [(2, 0, 0, 0, 100), (17, 5, 5, 20, 101), (0, 2, 0, 0, 104), (34, 0, 0, 0, 105), (2, 1, 0, 0, 106), (17, 5, 5, 20, 107), (0, 2, 0, 0, 110), (34, 0, 0, 0, 111), (64, 27, 2, 86, 112), (15, 2, 1, 0, 115), (54, 92, 0, 0, 118)]),
  (121, [(69, 0, 0, 0, 121)])]
/-- CC$Mail.copyFrom -/
def zb_26 : List (Nat × List zO) := [
  (0, [(2, 1, 0, 0, 0), (17, 1, 0, 9, 1), (5, 0, 0, 0, 4), (2, 0, 0, 0, 5), (17, 1, 0, 9, 6), (5, 0, 0, 0, 9), (2, 1, 0, 0, 10), (16, 1, 1, 21, 11), (6, 12, 0, 0, 14), (22, 0, 0, 0, 16), (80, 0, 0, 37, 17), (2, 0, 0, 0, 20), (2, 1, 0, 0, 21), (16, 1, 1, 21, 22), (18, 1, 1, 21, 25), (2, 0, 0, 0, 28), (2, 1, 0, 0, 29), (16, 1, 2, 25, 30), (18, 1, 2, 25, 33), (2, 0, 0, 0, 36), (2, 1, 0, 0, 37), (16, 1, 3, 28, 38), (18, 1, 3, 28, 41), (2, 1, 0, 0, 44), (17, 1, 4, 15, 45), (5, 0, 0, 0, 48), (2, 0, 0, 0, 49), (17, 1, 4, 15, 50), (5, 0, 0, 0, 53), (6, 8, 0, 0, 54), (80, 0, 0, 37, 56), (2, 1, 0, 0, 59), (17, 1, 5, 18, 60), (5, 0, 0, 0, 63), (2, 0, 0, 0, 64), (17, 1, 5, 18, 65), (5, 0, 0, 0, 68), (6, 8, 0, 0, 69), (80, 0, 0, 37, 71), (69, 0, 0, 0, 74)])]
/-- CC$Member.copyFrom -/
def zb_27 : List (Nat × List zO) := [
  (0, [(2, 0, 0, 0, 0), (2, 1, 0, 0, 1), (16, 2, 1, 37, 2), (18, 2, 1, 37, 5), (2, 0, 0, 0, 8), (2, 1, 0, 0, 9), (16, 2, 2, 40, 10), (18, 2, 2, 40, 13), (2, 0, 0, 0, 16), (2, 1, 0, 0, 17), (16, 2, 3, 43, 18), (18, 2, 3, 43, 21), (2, 0, 0, 0, 24), (2, 1, 0, 0, 25), (16, 2, 4, 46, 26), (18, 2, 4, 46, 29), (2, 0, 0, 0, 32), (2, 1, 0, 0, 33), (16, 2, 5, 25, 34), (18, 2, 5, 25, 37), (2, 0, 0, 0, 40), (2, 1, 0, 0, 41), (16, 2, 6, 28, 42), (18, 2, 6, 28, 45), (2, 0, 0, 0, 48), (2, 1, 0, 0, 49), (16, 2, 7, 49, 50), (18, 2, 7, 49, 53), (2, 0, 0, 0, 56), (2, 1, 0, 0, 57), (16, 2, 8, 52, 58), (18, 2, 8, 52, 61), (2, 0, 0, 0, 64), (2, 1, 0, 0, 65), (16, 2, 9, 55, 66), (18, 2, 9, 55, 69), (2, 0, 0, 0, 72), (2, 1, 0, 0, 73), (16, 2, 10, 58, 74), (18, 2, 10, 58, 77), (2, 0, 0, 0, 80), (2, 1, 0, 0, 81), (16, 2, 11, 61, 82), (18, 2, 11, 61, 85), (2, 1, 0, 0, 88), (17, 2, 12, 9, 89), (5, 0, 0, 0, 92), (2, 0, 0, 0, 93), (17, 2, 12, 9, 94), (5, 0, 0, 0, 97), (6, 6, 0, 0, 98), (80, 0, 0, 64, 100), (2, 1, 0, 0, 103), (17, 2, 13, 15, 104), (5, 0, 0, 0, 107), (2, 0, 0, 0, 108), (17, 2, 13, 15, 109), (5, 0, 0, 0, 112), (6, 6, 0, 0, 113), (80, 0, 0, 64, 115), (2, 1, 0, 0, 118), (17, 2, 14, 18, 119), (5, 0, 0, 0, 122), (2, 0, 0, 0, 123), (17, 2, 14, 18, 124), (5, 0, 0, 0, 127), (6, 7, 0, 0, 128), (80, 0, 0, 64, 130), (69, 0, 0, 0, 133)])]
/-- CC.undo -/
def zb_28 : List (Nat × List zO) := [
  (0, [(2, 0, 0, 0, 0), (16, 6, 9, 77, 1), (49, 9, 7, 0, 4)]),
  (7, [(5, 4294967295, 0, 0, 7), (70, 0, 0, 0, 8)]),
  (9, [(2, 0, 0, 0, 9), (39, 0, 0, 0, 10), (16, 6, 9, 77, 11), (5, 1, 0, 0, 14), (21, 0, 0, 0, 15), (18, 6, 9, 77, 16), (2, 0, 0, 0, 19), (2, 0, 0, 0, 20), (16, 6, 8, 146, 21), (6, 8, 0, 0, 24), (20, 0, 0, 0, 26), (5, 1, 0, 0, 27), (21, 0, 0, 0, 28), (6, 8, 0, 0, 29), (30, 0, 0, 0, 31), (18, 6, 8, 146, 32), (2, 0, 0, 0, 35), (17, 6, 7, 37, 36), (2, 0, 0, 0, 39), (16, 6, 8, 146, 40), (34, 0, 0, 0, 43), (12, 1, 0, 0, 44), (2, 0, 0, 0, 45), (17, 6, 7, 37, 46), (2, 0, 0, 0, 49), (16, 6, 8, 146, 50), (2, 0, 0, 0, 53), (17, 6, 5, 30, 54), (35, 0, 0, 0, 57), (2, 0, 0, 0, 58), (2, 1, 0, 0, 59), (19, 6, 5, 30, 60), (2, 0, 0, 0, 63), (16, 6, 9, 77, 64), (70, 0, 0, 0, 67)])]
/-- CC.chiefs -/
def zb_29 : List (Nat × List zO) := [
  (0, [(2, 0, 0, 0, 0), (17, 6, 5, 30, 1), (63, 30, 1, 269, 4), (70, 0, 0, 0, 7)])]
/-- CC$Survey.leaders -/
def zb_30 : List (Nat × List zO) := [
  (0, [(5, 0, 0, 0, 0), (10, 1, 0, 0, 1), (5, 0, 0, 0, 2), (10, 2, 0, 0, 3), (55, 4, 0, 0, 4)]),
  (4, [(0, 2, 0, 0, 4), (2, 0, 0, 0, 5), (16, 5, 0, 9, 6), (45, 36, 12, 0, 9)]),
  (12, [(2, 0, 0, 0, 12), (17, 5, 5, 15, 13), (0, 2, 0, 0, 16), (34, 0, 0, 0, 17), (64, 31, 1, 92, 18), (48, 30, 24, 0, 21)]),
  (24, [(0, 1, 0, 0, 24), (5, 1, 0, 0, 25), (0, 2, 0, 0, 26), (26, 0, 0, 0, 27), (24, 0, 0, 0, 28), (10, 1, 0, 0, 29), (55, 30, 0, 0, 30)]),
  (30, [(15, 2, 1, 0, 30), (54, 4, 0, 0, 33)]),
  (36, [(0, 1, 0, 0, 36), (70, 0, 0, 0, 37)])]
/-- CC$Member.leads -/
def zb_31 : List (Nat × List zO) := [
  (0, [(2, 0, 0, 0, 0), (16, 2, 3, 43, 1), (49, 22, 7, 0, 4)]),
  (7, [(2, 0, 0, 0, 7), (16, 2, 4, 46, 8), (2, 0, 0, 0, 11), (16, 2, 0, 21, 12), (43, 22, 18, 0, 15)]),
  (18, [(5, 1, 0, 0, 18), (54, 23, 0, 0, 19)]),
  (22, [(5, 0, 0, 0, 22), (55, 23, 0, 0, 23)]),
  (23, [(72, 0, 0, 0, 23)])]
/-- CC.until -/
def zb_32 : List (Nat × List zO) := [
  (0, [(2, 0, 0, 0, 0), (17, 6, 6, 34, 1), (2, 0, 0, 0, 4), (17, 6, 5, 30, 5), (64, 25, 2, 149, 8), (2, 0, 0, 0, 11), (17, 6, 6, 34, 12), (63, 33, 1, 275, 15), (70, 0, 0, 0, 18)])]
/-- CC.untilOne -/
def zb_33 : List (Nat × List zO) := [
  (0, [(5, 0, 0, 0, 0), (10, 1, 0, 0, 1), (55, 2, 0, 0, 2)]),
  (2, [(0, 1, 0, 0, 2), (7, 300, 0, 0, 3), (46, 33, 9, 0, 6)]),
  (9, [(0, 1, 0, 0, 9), (53, 18, 13, 0, 10)]),
  (13, [(2, 0, 0, 0, 13), (64, 34, 1, 302, 14), (41, 0, 0, 0, 17), (55, 18, 0, 0, 18)]),
  (18, [(2, 0, 0, 0, 18), (63, 53, 1, 174, 19), (48, 27, 25, 0, 22)]),
  (25, [(0, 1, 0, 0, 25), (70, 0, 0, 0, 26)]),
  (27, [(15, 1, 1, 0, 27), (54, 2, 0, 0, 30)]),
  (33, [(5, 4294967295, 0, 0, 33), (70, 0, 0, 0, 34)])]
/-- CC$World.exchange -/
def zb_34 : List (Nat × List zO) := [
  (0, [(2, 0, 0, 0, 0), (39, 0, 0, 0, 1), (16, 5, 2, 48, 2), (5, 1, 0, 0, 5), (20, 0, 0, 0, 6), (18, 5, 2, 48, 7), (5, 0, 0, 0, 10), (10, 1, 0, 0, 11), (2, 0, 0, 0, 12), (17, 5, 6, 27, 13), (16, 1, 1, 118, 16), (10, 2, 0, 0, 19), (5, 0, 0, 0, 20), (10, 3, 0, 0, 21), (55, 22, 0, 0, 22)]),
  (22, [(0, 3, 0, 0, 22), (0, 2, 0, 0, 23), (45, 94, 27, 0, 24)]),
  (27, [(2, 0, 0, 0, 27), (17, 5, 6, 27, 28), (0, 3, 0, 0, 31), (5, 3, 0, 0, 32), (64, 35, 3, 121, 33), (2, 0, 0, 0, 36), (16, 5, 2, 48, 37), (43, 88, 43, 0, 40)]),
  (43, [(2, 0, 0, 0, 43), (17, 5, 6, 27, 44), (39, 0, 0, 0, 47), (16, 1, 2, 125, 48), (5, 1, 0, 0, 51), (20, 0, 0, 0, 52), (18, 1, 2, 125, 53), (2, 0, 0, 0, 56), (0, 3, 0, 0, 57), (64, 36, 2, 128, 58), (48, 75, 64, 0, 61)]),
  (64, [(2, 0, 0, 0, 64), (0, 3, 0, 0, 65), (64, 37, 2, 132, 66), (15, 1, 1, 0, 69), (54, 88, 0, 0, 72)]),
  (75, [(2, 0, 0, 0, 75), (17, 5, 6, 27, 76), (39, 0, 0, 0, 79), (16, 1, 3, 135, 80), (5, 1, 0, 0, 83), (20, 0, 0, 0, 84), (18, 1, 3, 135, 85), (55, 88, 0, 0, 88)]),
  (88, [(15, 3, 1, 0, 88), (54, 22, 0, 0, 91)]),
  (94, [(2, 0, 0, 0, 94), (17, 5, 6, 27, 95), (2, 0, 0, 0, 98), (16, 5, 2, 48, 99), (64, 48, 2, 138, 102), (5, 0, 0, 0, 105), (10, 3, 0, 0, 106), (55, 107, 0, 0, 107)]),
  (107, [(0, 3, 0, 0, 107), (2, 0, 0, 0, 108), (16, 5, 0, 43, 109), (45, 160, 115, 0, 112)]),
  (115, [(2, 0, 0, 0, 115), (17, 5, 5, 20, 116), (0, 3, 0, 0, 119), (34, 0, 0, 0, 120), (16, 2, 3, 97, 121), (5, 2, 0, 0, 124), (42, 154, 128, 0, 125)]),
  (128, [(2, 0, 0, 0, 128), (17, 5, 5, 20, 129), (0, 3, 0, 0, 132), (34, 0, 0, 0, 133), (16, 2, 11, 141, 134), (2, 0, 0, 0, 137), (16, 5, 2, 48, 138), (43, 154, 144, 0, 141)]),
  (144, [(2, 0, 0, 0, 144), (2, 0, 0, 0, 145), (17, 5, 5, 20, 146), (0, 3, 0, 0, 149), (34, 0, 0, 0, 150), (64, 49, 2, 144, 151), (55, 154, 0, 0, 154)]),
  (154, [(15, 3, 1, 0, 154), (54, 107, 0, 0, 157)]),
  (160, [(0, 1, 0, 0, 160), (70, 0, 0, 0, 161)])]
/-- CC$Mail.field -/
def zb_35 : List (Nat × List zO) := [
  (0, [(2, 0, 0, 0, 0), (17, 1, 0, 9, 1), (0, 1, 0, 0, 4), (6, 12, 0, 0, 5), (22, 0, 0, 0, 7), (0, 2, 0, 0, 8), (20, 0, 0, 0, 9), (32, 0, 0, 0, 10), (70, 0, 0, 0, 11)])]
/-- CC$World.arrives -/
def zb_36 : List (Nat × List zO) := [
  (0, [(2, 0, 0, 0, 0), (17, 5, 6, 27, 1), (0, 1, 0, 0, 4), (5, 1, 0, 0, 5), (64, 35, 3, 121, 6), (10, 2, 0, 0, 9), (2, 0, 0, 0, 10), (17, 5, 5, 20, 11), (0, 2, 0, 0, 14), (34, 0, 0, 0, 15), (16, 2, 3, 97, 16), (5, 2, 0, 0, 19), (42, 48, 23, 0, 20)]),
  (23, [(2, 0, 0, 0, 23), (17, 5, 4, 15, 24), (0, 2, 0, 0, 27), (32, 0, 0, 0, 28), (5, 1, 0, 0, 29), (2, 0, 0, 0, 30), (17, 5, 6, 27, 31), (0, 1, 0, 0, 34), (5, 0, 0, 0, 35), (64, 35, 3, 121, 36), (26, 0, 0, 0, 39), (23, 0, 0, 0, 40), (48, 48, 44, 0, 41)]),
  (44, [(5, 1, 0, 0, 44), (54, 49, 0, 0, 45)]),
  (48, [(5, 0, 0, 0, 48), (55, 49, 0, 0, 49)]),
  (49, [(72, 0, 0, 0, 49)])]
/-- CC$World.handle -/
def zb_37 : List (Nat × List zO) := [
  (0, [(2, 0, 0, 0, 0), (17, 5, 5, 20, 1), (2, 0, 0, 0, 4), (17, 5, 6, 27, 5), (0, 1, 0, 0, 8), (5, 1, 0, 0, 9), (64, 35, 3, 121, 10), (34, 0, 0, 0, 13), (12, 2, 0, 0, 14), (2, 0, 0, 0, 15), (17, 5, 6, 27, 16), (0, 1, 0, 0, 19), (5, 0, 0, 0, 20), (64, 35, 3, 121, 21), (10, 3, 0, 0, 24), (2, 0, 0, 0, 25), (17, 5, 6, 27, 26), (0, 1, 0, 0, 29), (5, 4, 0, 0, 30), (64, 35, 3, 121, 31), (11, 4, 0, 0, 34), (2, 0, 0, 0, 36), (17, 5, 6, 27, 37), (0, 1, 0, 0, 40), (5, 2, 0, 0, 41), (64, 35, 3, 121, 42), (11, 5, 0, 0, 45), (2, 0, 0, 0, 47), (17, 5, 6, 27, 48), (17, 1, 5, 147, 51), (1, 5, 0, 0, 54), (40, 0, 0, 0, 56), (32, 0, 0, 0, 57), (5, 1, 0, 0, 58), (20, 0, 0, 0, 59), (33, 0, 0, 0, 60), (1, 5, 0, 0, 61), (56, 0, 0, 41, 63)]),
  (104, [(2, 0, 0, 0, 104), (2, 2, 0, 0, 105), (0, 3, 0, 0, 106), (1, 4, 0, 0, 107), (64, 38, 4, 150, 109), (54, 247, 0, 0, 112)]),
  (115, [(2, 2, 0, 0, 115), (16, 2, 10, 100, 116), (5, 2, 0, 0, 119), (43, 247, 123, 0, 120)]),
  (123, [(2, 2, 0, 0, 123), (39, 0, 0, 0, 124), (16, 2, 8, 154, 125), (5, 1, 0, 0, 128), (0, 3, 0, 0, 129), (26, 0, 0, 0, 130), (24, 0, 0, 0, 131), (18, 2, 8, 154, 132), (54, 247, 0, 0, 135)]),
  (138, [(2, 0, 0, 0, 138), (2, 2, 0, 0, 139), (0, 3, 0, 0, 140), (1, 4, 0, 0, 141), (64, 41, 4, 157, 143), (54, 247, 0, 0, 146)]),
  (149, [(2, 0, 0, 0, 149), (2, 2, 0, 0, 150), (0, 3, 0, 0, 151), (1, 4, 0, 0, 152), (64, 42, 4, 160, 154), (54, 247, 0, 0, 157)]),
  (160, [(2, 2, 0, 0, 160), (16, 2, 10, 100, 161), (5, 5, 0, 0, 164), (43, 247, 168, 0, 165)]),
  (168, [(2, 2, 0, 0, 168), (16, 2, 4, 163, 169), (0, 3, 0, 0, 172), (43, 247, 176, 0, 173)]),
  (176, [(2, 0, 0, 0, 176), (2, 2, 0, 0, 177), (64, 15, 2, 75, 178), (54, 247, 0, 0, 181)]),
  (184, [(2, 0, 0, 0, 184), (2, 2, 0, 0, 185), (2, 0, 0, 0, 186), (17, 5, 6, 27, 187), (0, 1, 0, 0, 190), (5, 5, 0, 0, 191), (64, 35, 3, 121, 192), (1, 4, 0, 0, 195), (64, 43, 4, 166, 197), (54, 247, 0, 0, 200)]),
  (203, [(2, 2, 0, 0, 203), (16, 2, 10, 100, 204), (5, 4, 0, 0, 207), (43, 247, 211, 0, 208)]),
  (211, [(2, 2, 0, 0, 211), (16, 2, 6, 169, 212), (1, 4, 0, 0, 215), (43, 247, 220, 0, 217)]),
  (220, [(2, 2, 0, 0, 220), (39, 0, 0, 0, 221), (16, 2, 7, 172, 222), (5, 1, 0, 0, 225), (0, 3, 0, 0, 226), (26, 0, 0, 0, 227), (24, 0, 0, 0, 228), (18, 2, 7, 172, 229), (2, 0, 0, 0, 232), (2, 2, 0, 0, 233), (0, 1, 0, 0, 234), (64, 45, 3, 175, 235), (54, 247, 0, 0, 238)]),
  (241, [(2, 0, 0, 0, 241), (2, 2, 0, 0, 242), (0, 1, 0, 0, 243), (64, 47, 3, 179, 244), (55, 247, 0, 0, 247)]),
  (247, [(69, 0, 0, 0, 247)])]
/-- CC$World.onAsk -/
def zb_38 : List (Nat × List zO) := [
  (0, [(2, 1, 0, 0, 0), (64, 31, 1, 182, 1), (48, 19, 7, 0, 4)]),
  (7, [(2, 0, 0, 0, 7), (2, 1, 0, 0, 8), (0, 2, 0, 0, 9), (5, 1, 0, 0, 10), (5, 4294967295, 0, 0, 11), (5, 4294967295, 0, 0, 12), (64, 39, 6, 186, 13), (54, 51, 0, 0, 16)]),
  (19, [(2, 1, 0, 0, 19), (16, 2, 3, 97, 20), (49, 51, 26, 0, 23)]),
  (26, [(2, 1, 0, 0, 26), (16, 2, 4, 163, 27), (0, 2, 0, 0, 30), (43, 51, 34, 0, 31)]),
  (34, [(2, 1, 0, 0, 34), (16, 2, 6, 169, 35), (0, 3, 0, 0, 38), (43, 51, 42, 0, 39)]),
  (42, [(2, 0, 0, 0, 42), (2, 1, 0, 0, 43), (0, 2, 0, 0, 44), (5, 3, 0, 0, 45), (0, 3, 0, 0, 46), (5, 4294967295, 0, 0, 47), (64, 39, 6, 186, 48), (55, 51, 0, 0, 51)]),
  (51, [(69, 0, 0, 0, 51)])]
/-- CC$World.send -/
def zb_39 : List (Nat × List zO) := [
  (0, [(2, 0, 0, 0, 0), (17, 5, 6, 27, 1), (2, 1, 0, 0, 4), (0, 2, 0, 0, 5), (0, 3, 0, 0, 6), (2, 0, 0, 0, 7), (16, 5, 2, 48, 8), (2, 0, 0, 0, 11), (17, 5, 3, 9, 12), (5, 3, 0, 0, 15), (32, 0, 0, 0, 16), (20, 0, 0, 0, 17), (1, 4, 0, 0, 18), (1, 5, 0, 0, 20), (64, 40, 7, 231, 22), (69, 0, 0, 0, 25)])]
/-- CC$Mail.add -/
def zb_40 : List (Nat × List zO) := [
  (0, [(2, 0, 0, 0, 0), (17, 1, 4, 15, 1), (0, 3, 0, 0, 4), (40, 0, 0, 0, 5), (32, 0, 0, 0, 6), (5, 1, 0, 0, 7), (20, 0, 0, 0, 8), (33, 0, 0, 0, 9), (2, 0, 0, 0, 10), (16, 1, 1, 21, 11), (2, 0, 0, 0, 14), (16, 1, 2, 25, 15), (21, 0, 0, 0, 18), (7, 300, 0, 0, 19), (45, 35, 25, 0, 22)]),
  (25, [(2, 0, 0, 0, 25), (16, 1, 1, 21, 26), (7, 600, 0, 0, 29), (44, 46, 35, 0, 32)]),
  (35, [(2, 0, 0, 0, 35), (39, 0, 0, 0, 36), (16, 1, 3, 28, 37), (5, 1, 0, 0, 40), (20, 0, 0, 0, 41), (18, 1, 3, 28, 42), (69, 0, 0, 0, 45)]),
  (46, [(2, 0, 0, 0, 46), (16, 1, 1, 21, 47), (6, 12, 0, 0, 50), (22, 0, 0, 0, 52), (11, 7, 0, 0, 53), (2, 0, 0, 0, 55), (17, 1, 0, 9, 56), (1, 7, 0, 0, 59), (5, 0, 0, 0, 61), (20, 0, 0, 0, 62), (2, 1, 0, 0, 63), (16, 2, 0, 43, 64), (33, 0, 0, 0, 67), (2, 0, 0, 0, 68), (17, 1, 0, 9, 69), (1, 7, 0, 0, 72), (5, 1, 0, 0, 74), (20, 0, 0, 0, 75), (0, 2, 0, 0, 76), (33, 0, 0, 0, 77), (2, 0, 0, 0, 78), (17, 1, 0, 9, 79), (1, 7, 0, 0, 82), (5, 2, 0, 0, 84), (20, 0, 0, 0, 85), (0, 3, 0, 0, 86), (33, 0, 0, 0, 87), (2, 0, 0, 0, 88), (17, 1, 0, 9, 89), (1, 7, 0, 0, 92), (5, 3, 0, 0, 94), (20, 0, 0, 0, 95), (1, 4, 0, 0, 96), (33, 0, 0, 0, 98), (2, 0, 0, 0, 99), (17, 1, 0, 9, 100), (1, 7, 0, 0, 103), (5, 4, 0, 0, 105), (20, 0, 0, 0, 106), (1, 5, 0, 0, 107), (33, 0, 0, 0, 109), (2, 0, 0, 0, 110), (17, 1, 0, 9, 111), (1, 7, 0, 0, 114), (5, 5, 0, 0, 116), (20, 0, 0, 0, 117), (1, 6, 0, 0, 118), (33, 0, 0, 0, 120), (5, 0, 0, 0, 121), (11, 8, 0, 0, 122), (55, 124, 0, 0, 124)]),
  (124, [(1, 8, 0, 0, 124), (6, 6, 0, 0, 126), (45, 157, 131, 0, 128)]),
  (131, [(2, 0, 0, 0, 131), (17, 1, 0, 9, 132), (1, 7, 0, 0, 135), (6, 6, 0, 0, 137), (20, 0, 0, 0, 139), (1, 8, 0, 0, 140), (20, 0, 0, 0, 142), (2, 1, 0, 0, 143), (17, 2, 12, 48, 144), (1, 8, 0, 0, 147), (32, 0, 0, 0, 149), (33, 0, 0, 0, 150), (15, 8, 1, 0, 151), (54, 124, 0, 0, 154)]),
  (157, [(2, 0, 0, 0, 157), (39, 0, 0, 0, 158), (16, 1, 1, 21, 159), (5, 1, 0, 0, 162), (20, 0, 0, 0, 163), (18, 1, 1, 21, 164), (69, 0, 0, 0, 167)])]
/-- CC$World.onThere -/
def zb_41 : List (Nat × List zO) := [
  (0, [(2, 1, 0, 0, 0), (64, 31, 1, 182, 1), (48, 38, 7, 0, 4)]),
  (7, [(2, 1, 0, 0, 7), (16, 2, 6, 169, 8), (0, 3, 0, 0, 11), (43, 38, 15, 0, 12)]),
  (15, [(2, 1, 0, 0, 15), (16, 2, 7, 172, 16), (5, 1, 0, 0, 19), (0, 2, 0, 0, 20), (26, 0, 0, 0, 21), (23, 0, 0, 0, 22), (48, 38, 26, 0, 23)]),
  (26, [(2, 0, 0, 0, 26), (2, 1, 0, 0, 27), (0, 2, 0, 0, 28), (5, 3, 0, 0, 29), (0, 3, 0, 0, 30), (5, 4294967295, 0, 0, 31), (64, 39, 6, 186, 32), (54, 47, 0, 0, 35)]),
  (38, [(2, 0, 0, 0, 38), (2, 1, 0, 0, 39), (0, 2, 0, 0, 40), (5, 4, 0, 0, 41), (5, 4294967295, 0, 0, 42), (5, 4294967295, 0, 0, 43), (64, 39, 6, 186, 44), (55, 47, 0, 0, 47)]),
  (47, [(69, 0, 0, 0, 47)])]
/-- CC$World.onYes -/
def zb_42 : List (Nat × List zO) := [
  (0, [(2, 1, 0, 0, 0), (16, 2, 6, 169, 1), (0, 3, 0, 0, 4), (42, 9, 8, 0, 5)]),
  (8, [(69, 0, 0, 0, 8)]),
  (9, [(2, 1, 0, 0, 9), (16, 2, 10, 100, 10), (5, 5, 0, 0, 13), (43, 40, 17, 0, 14)]),
  (17, [(2, 1, 0, 0, 17), (16, 2, 4, 163, 18), (0, 2, 0, 0, 21), (43, 40, 25, 0, 22)]),
  (25, [(2, 0, 0, 0, 25), (2, 1, 0, 0, 26), (5, 1, 0, 0, 27), (2, 0, 0, 0, 28), (17, 5, 3, 9, 29), (5, 0, 0, 0, 32), (32, 0, 0, 0, 33), (64, 19, 4, 190, 34), (54, 60, 0, 0, 37)]),
  (40, [(2, 1, 0, 0, 40), (16, 2, 10, 100, 41), (5, 2, 0, 0, 44), (43, 60, 48, 0, 45)]),
  (48, [(2, 1, 0, 0, 48), (39, 0, 0, 0, 49), (16, 2, 9, 193, 50), (5, 1, 0, 0, 53), (0, 2, 0, 0, 54), (26, 0, 0, 0, 55), (24, 0, 0, 0, 56), (18, 2, 9, 193, 57), (55, 60, 0, 0, 60)]),
  (60, [(69, 0, 0, 0, 60)])]
/-- CC$World.onInvite -/
def zb_43 : List (Nat × List zO) := [
  (0, [(2, 1, 0, 0, 0), (16, 2, 3, 97, 1), (49, 15, 7, 0, 4)]),
  (7, [(2, 1, 0, 0, 7), (16, 2, 0, 196, 8), (0, 2, 0, 0, 11), (43, 16, 15, 0, 12)]),
  (15, [(69, 0, 0, 0, 15)]),
  (16, [(2, 1, 0, 0, 16), (64, 31, 1, 182, 17), (48, 41, 23, 0, 20)]),
  (23, [(2, 0, 0, 0, 23), (2, 1, 0, 0, 24), (2, 1, 0, 0, 25), (16, 2, 7, 172, 26), (5, 1, 0, 0, 29), (0, 2, 0, 0, 30), (26, 0, 0, 0, 31), (5, 4294967295, 0, 0, 32), (25, 0, 0, 0, 33), (23, 0, 0, 0, 34), (5, 5, 0, 0, 35), (0, 3, 0, 0, 36), (0, 2, 0, 0, 37), (64, 44, 6, 199, 38), (55, 41, 0, 0, 41)]),
  (41, [(2, 1, 0, 0, 41), (5, 1, 0, 0, 42), (18, 2, 3, 97, 43), (2, 1, 0, 0, 46), (0, 2, 0, 0, 47), (18, 2, 4, 163, 48), (2, 0, 0, 0, 51), (2, 1, 0, 0, 52), (0, 3, 0, 0, 53), (64, 16, 3, 202, 54), (2, 1, 0, 0, 57), (64, 17, 1, 205, 58), (2, 0, 0, 0, 61), (2, 1, 0, 0, 62), (0, 2, 0, 0, 63), (6, 6, 0, 0, 64), (0, 3, 0, 0, 66), (5, 4294967295, 0, 0, 67), (64, 39, 6, 186, 68), (2, 0, 0, 0, 71), (2, 1, 0, 0, 72), (6, 6, 0, 0, 73), (5, 3, 0, 0, 75), (2, 0, 0, 0, 76), (17, 5, 3, 9, 77), (5, 1, 0, 0, 80), (32, 0, 0, 0, 81), (22, 0, 0, 0, 82), (64, 19, 4, 190, 83), (2, 1, 0, 0, 86), (17, 2, 14, 115, 87), (5, 5, 0, 0, 90), (40, 0, 0, 0, 91), (32, 0, 0, 0, 92), (5, 1, 0, 0, 93), (20, 0, 0, 0, 94), (33, 0, 0, 0, 95), (69, 0, 0, 0, 96)])]
/-- CC$World.sendToAll -/
def zb_44 : List (Nat × List zO) := [
  (0, [(5, 0, 0, 0, 0), (11, 6, 0, 0, 1), (55, 3, 0, 0, 3)]),
  (3, [(1, 6, 0, 0, 3), (2, 0, 0, 0, 5), (16, 5, 0, 43, 6), (45, 62, 12, 0, 9)]),
  (12, [(1, 6, 0, 0, 12), (2, 1, 0, 0, 14), (16, 2, 0, 196, 15), (42, 56, 21, 0, 18)]),
  (21, [(0, 2, 0, 0, 21), (5, 1, 0, 0, 22), (1, 6, 0, 0, 23), (26, 0, 0, 0, 25), (23, 0, 0, 0, 26), (48, 56, 30, 0, 27)]),
  (30, [(2, 0, 0, 0, 30), (17, 5, 6, 27, 31), (2, 1, 0, 0, 34), (1, 6, 0, 0, 35), (0, 3, 0, 0, 37), (2, 0, 0, 0, 38), (16, 5, 2, 48, 39), (2, 0, 0, 0, 42), (17, 5, 3, 9, 43), (5, 3, 0, 0, 46), (32, 0, 0, 0, 47), (20, 0, 0, 0, 48), (1, 4, 0, 0, 49), (1, 5, 0, 0, 51), (64, 40, 7, 231, 53), (55, 56, 0, 0, 56)]),
  (56, [(15, 6, 1, 0, 56), (54, 3, 0, 0, 59)]),
  (62, [(69, 0, 0, 0, 62)])]
/-- CC$World.learn -/
def zb_45 : List (Nat × List zO) := [
  (0, [(5, 0, 0, 0, 0), (10, 3, 0, 0, 1), (55, 2, 0, 0, 2)]),
  (2, [(0, 3, 0, 0, 2), (2, 0, 0, 0, 3), (16, 5, 1, 47, 4), (45, 43, 10, 0, 7)]),
  (10, [(2, 1, 0, 0, 10), (17, 2, 12, 208, 11), (0, 3, 0, 0, 14), (2, 1, 0, 0, 15), (17, 2, 12, 208, 16), (0, 3, 0, 0, 19), (32, 0, 0, 0, 20), (2, 0, 0, 0, 21), (17, 5, 6, 27, 22), (0, 2, 0, 0, 25), (6, 6, 0, 0, 26), (0, 3, 0, 0, 28), (20, 0, 0, 0, 29), (64, 35, 3, 121, 30), (63, 46, 2, 211, 33), (33, 0, 0, 0, 36), (15, 3, 1, 0, 37), (54, 2, 0, 0, 40)]),
  (43, [(69, 0, 0, 0, 43)])]
/-- java/lang/Math.max -/
def zb_46 : List (Nat × List zO) := [
  (0, [(0, 0, 0, 0, 0), (0, 1, 0, 0, 1), (44, 9, 5, 0, 2)]),
  (5, [(0, 0, 0, 0, 5), (54, 10, 0, 0, 6)]),
  (9, [(0, 1, 0, 0, 9), (55, 10, 0, 0, 10)]),
  (10, [(70, 0, 0, 0, 10)])]
/-- CC$World.onReady -/
def zb_47 : List (Nat × List zO) := [
  (0, [(2, 1, 0, 0, 0), (16, 2, 10, 100, 1), (6, 6, 0, 0, 4), (43, 72, 9, 0, 6)]),
  (9, [(2, 1, 0, 0, 9), (16, 2, 6, 169, 10), (2, 0, 0, 0, 13), (17, 5, 6, 27, 14), (0, 2, 0, 0, 17), (5, 4, 0, 0, 18), (64, 35, 3, 121, 19), (43, 72, 25, 0, 22)]),
  (25, [(2, 1, 0, 0, 25), (2, 0, 0, 0, 26), (17, 5, 6, 27, 27), (0, 2, 0, 0, 30), (5, 5, 0, 0, 31), (64, 35, 3, 121, 32), (18, 2, 7, 172, 35), (2, 0, 0, 0, 38), (2, 1, 0, 0, 39), (0, 2, 0, 0, 40), (64, 45, 3, 175, 41), (2, 1, 0, 0, 44), (5, 0, 0, 0, 45), (18, 2, 3, 97, 46), (2, 0, 0, 0, 49), (2, 1, 0, 0, 50), (5, 1, 0, 0, 51), (2, 0, 0, 0, 52), (17, 5, 3, 9, 53), (5, 0, 0, 0, 56), (32, 0, 0, 0, 57), (64, 19, 4, 190, 58), (2, 1, 0, 0, 61), (17, 2, 14, 115, 62), (6, 6, 0, 0, 65), (40, 0, 0, 0, 67), (32, 0, 0, 0, 68), (5, 1, 0, 0, 69), (20, 0, 0, 0, 70), (33, 0, 0, 0, 71), (55, 72, 0, 0, 72)]),
  (72, [(69, 0, 0, 0, 72)])]
/-- CC$Mail.dropDue -/
def zb_48 : List (Nat × List zO) := [
  (0, [(2, 0, 0, 0, 0), (16, 1, 2, 25, 1), (49, 8, 7, 0, 4)]),
  (7, [(69, 0, 0, 0, 7)]),
  (8, [(5, 0, 0, 0, 8), (10, 2, 0, 0, 9), (5, 0, 0, 0, 10), (10, 3, 0, 0, 11), (55, 12, 0, 0, 12)]),
  (12, [(0, 3, 0, 0, 12), (2, 0, 0, 0, 13), (16, 1, 1, 21, 14), (45, 65, 20, 0, 17)]),
  (20, [(2, 0, 0, 0, 20), (0, 3, 0, 0, 21), (5, 3, 0, 0, 22), (64, 35, 3, 51, 23), (0, 1, 0, 0, 26), (42, 59, 30, 0, 27)]),
  (30, [(0, 2, 0, 0, 30), (0, 3, 0, 0, 31), (45, 56, 35, 0, 32)]),
  (35, [(2, 0, 0, 0, 35), (17, 1, 0, 9, 36), (0, 3, 0, 0, 39), (6, 12, 0, 0, 40), (22, 0, 0, 0, 42), (2, 0, 0, 0, 43), (17, 1, 0, 9, 44), (0, 2, 0, 0, 47), (6, 12, 0, 0, 48), (22, 0, 0, 0, 50), (6, 12, 0, 0, 51), (80, 0, 0, 37, 53), (55, 56, 0, 0, 56)]),
  (56, [(15, 2, 1, 0, 56), (55, 59, 0, 0, 59)]),
  (59, [(15, 3, 1, 0, 59), (54, 12, 0, 0, 62)]),
  (65, [(2, 0, 0, 0, 65), (0, 2, 0, 0, 66), (18, 1, 1, 21, 67), (2, 0, 0, 0, 70), (5, 0, 0, 0, 71), (18, 1, 2, 25, 72), (69, 0, 0, 0, 75)])]
/-- CC$World.wake -/
def zb_49 : List (Nat × List zO) := [
  (0, [(2, 1, 0, 0, 0), (16, 2, 10, 100, 1), (56, 1, 0, 32, 4)]),
  (36, [(2, 0, 0, 0, 36), (2, 1, 0, 0, 37), (64, 50, 2, 216, 38), (54, 128, 0, 0, 41)]),
  (44, [(2, 0, 0, 0, 44), (2, 1, 0, 0, 45), (64, 51, 2, 219, 46), (2, 1, 0, 0, 49), (16, 2, 10, 100, 50), (5, 3, 0, 0, 53), (43, 128, 57, 0, 54)]),
  (57, [(2, 1, 0, 0, 57), (16, 2, 11, 141, 58), (2, 0, 0, 0, 61), (16, 5, 2, 48, 62), (43, 128, 68, 0, 65)]),
  (68, [(2, 0, 0, 0, 68), (2, 1, 0, 0, 69), (64, 52, 2, 222, 70), (54, 128, 0, 0, 73)]),
  (76, [(2, 0, 0, 0, 76), (2, 1, 0, 0, 77), (64, 52, 2, 222, 78), (54, 128, 0, 0, 81)]),
  (84, [(2, 1, 0, 0, 84), (5, 0, 0, 0, 85), (18, 2, 3, 97, 86), (2, 0, 0, 0, 89), (2, 1, 0, 0, 90), (2, 1, 0, 0, 91), (16, 2, 7, 172, 92), (6, 7, 0, 0, 95), (2, 1, 0, 0, 97), (16, 2, 6, 169, 98), (2, 1, 0, 0, 101), (16, 2, 7, 172, 102), (64, 44, 6, 199, 105), (2, 0, 0, 0, 108), (2, 1, 0, 0, 109), (5, 1, 0, 0, 110), (2, 0, 0, 0, 111), (17, 5, 3, 9, 112), (5, 0, 0, 0, 115), (32, 0, 0, 0, 116), (64, 19, 4, 190, 117), (54, 128, 0, 0, 120)]),
  (123, [(2, 0, 0, 0, 123), (2, 1, 0, 0, 124), (64, 15, 2, 75, 125), (55, 128, 0, 0, 128)]),
  (128, [(69, 0, 0, 0, 128)])]
/-- CC$World.look -/
def zb_50 : List (Nat × List zO) := [
  (0, [(2, 1, 0, 0, 0), (16, 2, 4, 163, 1), (2, 1, 0, 0, 4), (16, 2, 0, 196, 5), (43, 51, 11, 0, 8)]),
  (11, [(2, 1, 0, 0, 11), (5, 0, 0, 0, 12), (18, 2, 8, 154, 13), (2, 1, 0, 0, 16), (5, 0, 0, 0, 17), (18, 2, 9, 193, 18), (2, 0, 0, 0, 21), (2, 1, 0, 0, 22), (2, 0, 0, 0, 23), (64, 12, 1, 88, 24), (5, 0, 0, 0, 27), (2, 1, 0, 0, 28), (16, 2, 6, 169, 29), (5, 4294967295, 0, 0, 32), (64, 44, 6, 199, 33), (2, 0, 0, 0, 36), (2, 1, 0, 0, 37), (5, 2, 0, 0, 38), (2, 0, 0, 0, 39), (17, 5, 3, 9, 40), (5, 1, 0, 0, 43), (32, 0, 0, 0, 44), (64, 19, 4, 190, 45), (54, 78, 0, 0, 48)]),
  (51, [(2, 0, 0, 0, 51), (2, 1, 0, 0, 52), (2, 1, 0, 0, 53), (16, 2, 4, 163, 54), (5, 2, 0, 0, 57), (2, 1, 0, 0, 58), (16, 2, 6, 169, 59), (5, 4294967295, 0, 0, 62), (64, 39, 6, 186, 63), (2, 0, 0, 0, 66), (2, 1, 0, 0, 67), (5, 5, 0, 0, 68), (2, 0, 0, 0, 69), (17, 5, 3, 9, 70), (5, 1, 0, 0, 73), (32, 0, 0, 0, 74), (64, 19, 4, 190, 75), (55, 78, 0, 0, 78)]),
  (78, [(69, 0, 0, 0, 78)])]
/-- CC$World.weigh -/
def zb_51 : List (Nat × List zO) := [
  (0, [(2, 1, 0, 0, 0), (16, 2, 8, 154, 1), (49, 43, 7, 0, 4)]),
  (7, [(2, 1, 0, 0, 7), (16, 2, 7, 172, 8), (2, 1, 0, 0, 11), (64, 18, 1, 225, 12), (5, 4294967295, 0, 0, 15), (25, 0, 0, 0, 16), (23, 0, 0, 0, 17), (2, 1, 0, 0, 18), (16, 2, 9, 193, 19), (5, 4294967295, 0, 0, 22), (25, 0, 0, 0, 23), (23, 0, 0, 0, 24), (49, 43, 28, 0, 25)]),
  (28, [(2, 0, 0, 0, 28), (2, 1, 0, 0, 29), (5, 1, 0, 0, 30), (2, 0, 0, 0, 31), (17, 5, 3, 9, 32), (5, 0, 0, 0, 35), (32, 0, 0, 0, 36), (64, 19, 4, 190, 37), (54, 68, 0, 0, 40)]),
  (43, [(2, 0, 0, 0, 43), (2, 1, 0, 0, 44), (5, 3, 0, 0, 45), (2, 1, 0, 0, 46), (16, 2, 8, 154, 47), (2, 1, 0, 0, 50), (16, 2, 2, 71, 51), (23, 0, 0, 0, 54), (63, 13, 1, 91, 55), (2, 0, 0, 0, 58), (17, 5, 3, 9, 59), (5, 2, 0, 0, 62), (32, 0, 0, 0, 63), (22, 0, 0, 0, 64), (64, 19, 4, 190, 65), (55, 68, 0, 0, 68)]),
  (68, [(69, 0, 0, 0, 68)])]
/-- CC$World.merge -/
def zb_52 : List (Nat × List zO) := [
  (0, [(2, 1, 0, 0, 0), (39, 0, 0, 0, 1), (16, 2, 5, 228, 2), (5, 1, 0, 0, 5), (20, 0, 0, 0, 6), (18, 2, 5, 228, 7), (2, 0, 0, 0, 10), (2, 1, 0, 0, 11), (6, 10, 0, 0, 12), (2, 1, 0, 0, 14), (16, 2, 5, 228, 15), (22, 0, 0, 0, 18), (2, 1, 0, 0, 19), (16, 2, 0, 196, 20), (20, 0, 0, 0, 23), (64, 16, 3, 202, 24), (2, 1, 0, 0, 27), (5, 1, 0, 0, 28), (18, 2, 3, 97, 29), (2, 0, 0, 0, 32), (2, 1, 0, 0, 33), (2, 1, 0, 0, 34), (16, 2, 8, 154, 35), (2, 1, 0, 0, 38), (16, 2, 7, 172, 39), (24, 0, 0, 0, 42), (5, 5, 0, 0, 43), (2, 1, 0, 0, 44), (16, 2, 6, 169, 45), (2, 1, 0, 0, 48), (16, 2, 0, 196, 49), (64, 44, 6, 199, 52), (2, 1, 0, 0, 55), (64, 17, 1, 205, 56), (2, 0, 0, 0, 59), (2, 1, 0, 0, 60), (5, 4, 0, 0, 61), (5, 2, 0, 0, 62), (2, 0, 0, 0, 63), (17, 5, 3, 9, 64), (5, 1, 0, 0, 67), (32, 0, 0, 0, 68), (22, 0, 0, 0, 69), (64, 19, 4, 190, 70), (2, 1, 0, 0, 73), (17, 2, 14, 115, 74), (5, 4, 0, 0, 77), (40, 0, 0, 0, 78), (32, 0, 0, 0, 79), (5, 1, 0, 0, 80), (20, 0, 0, 0, 81), (33, 0, 0, 0, 82), (69, 0, 0, 0, 83)])]
/-- CC$Survey.isOne -/
def zb_53 : List (Nat × List zO) := [
  (0, [(5, 0, 0, 0, 0), (10, 1, 0, 0, 1), (55, 2, 0, 0, 2)]),
  (2, [(0, 1, 0, 0, 2), (2, 0, 0, 0, 3), (16, 5, 0, 9, 4), (45, 31, 10, 0, 7)]),
  (10, [(2, 0, 0, 0, 10), (17, 5, 5, 15, 11), (0, 1, 0, 0, 14), (34, 0, 0, 0, 15), (16, 2, 3, 19, 16), (5, 1, 0, 0, 19), (43, 25, 23, 0, 20)]),
  (23, [(5, 0, 0, 0, 23), (72, 0, 0, 0, 24)]),
  (25, [(15, 1, 1, 0, 25), (54, 2, 0, 0, 28)]),
  (31, [(5, 0, 0, 0, 31), (10, 1, 0, 0, 32), (55, 33, 0, 0, 33)]),
  (33, [(0, 1, 0, 0, 33), (2, 0, 0, 0, 34), (16, 5, 0, 9, 35), (45, 87, 41, 0, 38)]),
  (41, [(2, 0, 0, 0, 41), (17, 5, 5, 15, 42), (0, 1, 0, 0, 45), (34, 0, 0, 0, 46), (12, 2, 0, 0, 47), (2, 2, 0, 0, 48), (16, 2, 3, 19, 49), (49, 81, 55, 0, 52)]),
  (55, [(2, 2, 0, 0, 55), (16, 2, 7, 48, 56), (2, 0, 0, 0, 59), (0, 1, 0, 0, 60), (63, 54, 2, 45, 61), (43, 79, 67, 0, 64)]),
  (67, [(2, 2, 0, 0, 67), (16, 2, 7, 48, 68), (2, 0, 0, 0, 71), (0, 1, 0, 0, 72), (63, 55, 2, 37, 73), (42, 81, 79, 0, 76)]),
  (79, [(5, 0, 0, 0, 79), (72, 0, 0, 0, 80)]),
  (81, [(15, 1, 1, 0, 81), (54, 33, 0, 0, 84)]),
  (87, [(5, 1, 0, 0, 87), (72, 0, 0, 0, 88)])]
/-- CC$Survey.circleOf -/
def zb_54 : List (Nat × List zO) := [
  (0, [(5, 0, 0, 0, 0), (10, 2, 0, 0, 1), (2, 0, 0, 0, 2), (17, 5, 5, 15, 3), (0, 1, 0, 0, 6), (34, 0, 0, 0, 7), (16, 2, 3, 19, 8), (49, 69, 14, 0, 11)]),
  (14, [(5, 0, 0, 0, 14), (10, 3, 0, 0, 15), (55, 16, 0, 0, 16)]),
  (16, [(0, 3, 0, 0, 16), (2, 0, 0, 0, 17), (16, 5, 0, 9, 18), (45, 69, 24, 0, 21)]),
  (24, [(2, 0, 0, 0, 24), (17, 5, 5, 15, 25), (0, 3, 0, 0, 28), (34, 0, 0, 0, 29), (13, 4, 0, 0, 30), (3, 4, 0, 0, 32), (16, 2, 3, 19, 34), (49, 63, 40, 0, 37)]),
  (40, [(3, 4, 0, 0, 40), (16, 2, 6, 34, 42), (2, 0, 0, 0, 45), (17, 5, 5, 15, 46), (0, 1, 0, 0, 49), (34, 0, 0, 0, 50), (16, 2, 6, 34, 51), (43, 63, 57, 0, 54)]),
  (57, [(0, 2, 0, 0, 57), (5, 1, 0, 0, 58), (0, 3, 0, 0, 59), (26, 0, 0, 0, 60), (24, 0, 0, 0, 61), (10, 2, 0, 0, 62), (55, 63, 0, 0, 63)]),
  (63, [(15, 3, 1, 0, 63), (54, 16, 0, 0, 66)]),
  (69, [(0, 2, 0, 0, 69), (70, 0, 0, 0, 70)])]
/-- CC$Survey.setOf -/
def zb_55 : List (Nat × List zO) := [
  (0, [(2, 0, 0, 0, 0), (63, 56, 1, 24, 1), (10, 2, 0, 0, 4), (0, 2, 0, 0, 5), (5, 1, 0, 0, 6), (0, 1, 0, 0, 7), (26, 0, 0, 0, 8), (23, 0, 0, 0, 9), (10, 3, 0, 0, 10), (5, 0, 0, 0, 11), (11, 4, 0, 0, 12), (55, 14, 0, 0, 14)]),
  (14, [(1, 4, 0, 0, 14), (2, 0, 0, 0, 16), (16, 5, 0, 9, 17), (45, 85, 23, 0, 20)]),
  (23, [(0, 3, 0, 0, 23), (11, 5, 0, 0, 24), (5, 0, 0, 0, 26), (11, 6, 0, 0, 27), (55, 29, 0, 0, 29)]),
  (29, [(1, 6, 0, 0, 29), (2, 0, 0, 0, 31), (16, 5, 0, 9, 32), (45, 67, 38, 0, 35)]),
  (38, [(0, 3, 0, 0, 38), (5, 1, 0, 0, 39), (1, 6, 0, 0, 40), (26, 0, 0, 0, 42), (23, 0, 0, 0, 43), (48, 61, 47, 0, 44)]),
  (47, [(1, 5, 0, 0, 47), (2, 0, 0, 0, 49), (17, 5, 4, 30, 50), (1, 6, 0, 0, 53), (32, 0, 0, 0, 55), (0, 2, 0, 0, 56), (23, 0, 0, 0, 57), (24, 0, 0, 0, 58), (11, 5, 0, 0, 59), (55, 61, 0, 0, 61)]),
  (61, [(15, 6, 1, 0, 61), (54, 29, 0, 0, 64)]),
  (67, [(1, 5, 0, 0, 67), (0, 3, 0, 0, 69), (43, 76, 73, 0, 70)]),
  (73, [(54, 85, 0, 0, 73)]),
  (76, [(1, 5, 0, 0, 76), (10, 3, 0, 0, 78), (15, 4, 1, 0, 79), (54, 14, 0, 0, 82)]),
  (85, [(0, 3, 0, 0, 85), (70, 0, 0, 0, 86)])]
/-- CC$Survey.awake -/
def zb_56 : List (Nat × List zO) := [
  (0, [(5, 0, 0, 0, 0), (10, 1, 0, 0, 1), (5, 0, 0, 0, 2), (10, 2, 0, 0, 3), (55, 4, 0, 0, 4)]),
  (4, [(0, 2, 0, 0, 4), (2, 0, 0, 0, 5), (16, 5, 0, 9, 6), (45, 37, 12, 0, 9)]),
  (12, [(2, 0, 0, 0, 12), (17, 5, 5, 15, 13), (0, 2, 0, 0, 16), (34, 0, 0, 0, 17), (16, 2, 3, 19, 18), (5, 2, 0, 0, 21), (42, 31, 25, 0, 22)]),
  (25, [(0, 1, 0, 0, 25), (5, 1, 0, 0, 26), (0, 2, 0, 0, 27), (26, 0, 0, 0, 28), (24, 0, 0, 0, 29), (10, 1, 0, 0, 30), (55, 31, 0, 0, 31)]),
  (31, [(15, 2, 1, 0, 31), (54, 4, 0, 0, 34)]),
  (37, [(0, 1, 0, 0, 37), (70, 0, 0, 0, 38)])]
/-- CC.print -/
def zb_57 : List (Nat × List zO) := [
  (0, [(62, 0, 0, 0, 0), (14, 1, 0, 0, 1), (5, 0, 0, 0, 2), (10, 3, 0, 0, 3), (55, 4, 0, 0, 4)]),
  (4, [(0, 3, 0, 0, 4), (2, 0, 0, 0, 5), (17, 6, 5, 30, 6), (16, 5, 0, 84, 9), (45, 71, 15, 0, 12)]),
  (15, [(2, 0, 0, 0, 15), (17, 6, 5, 30, 16), (17, 5, 5, 108, 19), (0, 3, 0, 0, 22), (34, 0, 0, 0, 23), (13, 4, 0, 0, 24), (61, 31, 0, 305, 26), (4, 1, 0, 0, 29), (59, 0, 0, 0, 30), (3, 4, 0, 0, 31), (16, 2, 6, 136, 33), (57, 0, 0, 0, 36), (58, 0, 0, 0, 37), (14, 1, 0, 0, 38), (61, 31, 0, 305, 39), (4, 1, 0, 0, 42), (59, 0, 0, 0, 43), (3, 4, 0, 0, 44), (16, 2, 7, 200, 46), (57, 0, 0, 0, 49), (58, 0, 0, 0, 50), (14, 1, 0, 0, 51), (61, 31, 0, 305, 52), (4, 1, 0, 0, 55), (59, 0, 0, 0, 56), (3, 4, 0, 0, 57), (16, 2, 10, 206, 59), (57, 0, 0, 0, 62), (58, 0, 0, 0, 63), (14, 1, 0, 0, 64), (15, 3, 1, 0, 65), (54, 4, 0, 0, 68)]),
  (71, [(4, 1, 0, 0, 71), (71, 0, 0, 0, 72)])]
/-- CC.status -/
def zb_58 : List (Nat × List zO) := [
  (0, [(0, 1, 0, 0, 0), (50, 22, 4, 0, 1)]),
  (4, [(0, 1, 0, 0, 4), (2, 0, 0, 0, 5), (17, 6, 3, 17, 6), (36, 0, 0, 0, 9), (45, 22, 13, 0, 10)]),
  (13, [(2, 0, 0, 0, 13), (17, 6, 3, 17, 14), (0, 1, 0, 0, 17), (32, 0, 0, 0, 18), (54, 23, 0, 0, 19)]),
  (22, [(5, 4294967295, 0, 0, 22), (55, 23, 0, 0, 23)]),
  (23, [(70, 0, 0, 0, 23)])]
/-- CCLaw.text -/
def zb_59 : List (Nat × List zO) := [
  (0, [(2, 2, 0, 0, 0), (5, 0, 0, 0, 1), (2, 0, 0, 0, 2), (0, 1, 0, 0, 3), (64, 60, 2, 7, 4), (57, 0, 0, 0, 7), (38, 0, 0, 0, 8), (54, 15, 0, 0, 9)]),
  (13, [(5, 1, 0, 0, 13), (70, 0, 0, 0, 14)]),
  (15, [(5, 0, 0, 0, 15), (70, 0, 0, 0, 16)])]
/-- CC.text -/
def zb_60 : List (Nat × List zO) := [
  (0, [(2, 0, 0, 0, 0), (0, 1, 0, 0, 1), (50, 17, 5, 0, 2)]),
  (5, [(0, 1, 0, 0, 5), (2, 0, 0, 0, 6), (16, 6, 1, 59, 7), (46, 17, 13, 0, 10)]),
  (13, [(5, 1, 0, 0, 13), (54, 18, 0, 0, 14)]),
  (17, [(5, 0, 0, 0, 17), (55, 18, 0, 0, 18)]),
  (18, [(64, 61, 2, 65, 18), (2, 0, 0, 0, 21), (5, 0, 0, 0, 22), (18, 6, 1, 59, 23), (2, 0, 0, 0, 26), (17, 6, 4, 23, 27), (2, 0, 0, 0, 30), (17, 6, 0, 9, 31), (0, 1, 0, 0, 34), (64, 62, 3, 69, 35), (49, 63, 41, 0, 38)]),
  (41, [(2, 0, 0, 0, 41), (2, 0, 0, 0, 42), (17, 6, 4, 23, 43), (16, 4, 2, 73, 46), (18, 6, 2, 13, 49), (2, 0, 0, 0, 52), (17, 6, 4, 23, 53), (16, 4, 1, 74, 56), (6, 10, 0, 0, 59), (21, 0, 0, 0, 61), (70, 0, 0, 0, 62)]),
  (63, [(2, 0, 0, 0, 63), (5, 4294967295, 0, 0, 64), (18, 6, 2, 13, 65), (2, 0, 0, 0, 68), (5, 0, 0, 0, 69), (18, 6, 9, 77, 70), (2, 0, 0, 0, 73), (17, 6, 5, 30, 74), (2, 0, 0, 0, 77), (17, 6, 4, 23, 78), (17, 4, 0, 80, 81), (64, 8, 2, 55, 84), (2, 0, 0, 0, 87), (17, 6, 5, 30, 88), (16, 5, 0, 84, 91), (70, 0, 0, 0, 94)])]
/-- CC.needArgument -/
def zb_61 : List (Nat × List zO) := [
  (0, [(0, 1, 0, 0, 0), (49, 25, 4, 0, 1)]),
  (4, [(2, 0, 0, 0, 4), (17, 6, 3, 17, 5), (5, 1, 0, 0, 8), (40, 0, 0, 0, 9), (32, 0, 0, 0, 10), (5, 1, 0, 0, 11), (20, 0, 0, 0, 12), (33, 0, 0, 0, 13), (83, 1, 0, 0, 14)]),
  (25, [(69, 0, 0, 0, 25)])]
/-- CC$TextReader.accepts -/
def zb_62 : List (Nat × List zO) := [
  (0, [(2, 0, 0, 0, 0), (2, 1, 0, 0, 1), (19, 4, 3, 18, 2), (2, 0, 0, 0, 5), (0, 2, 0, 0, 6), (2, 1, 0, 0, 7), (36, 0, 0, 0, 8), (63, 63, 2, 22, 9), (18, 4, 4, 28, 12), (2, 0, 0, 0, 15), (5, 0, 0, 0, 16), (18, 4, 5, 32, 17), (2, 0, 0, 0, 20), (5, 0, 0, 0, 21), (18, 4, 8, 35, 22), (2, 0, 0, 0, 25), (64, 64, 1, 38, 26), (49, 34, 32, 0, 29)]),
  (32, [(5, 0, 0, 0, 32), (72, 0, 0, 0, 33)]),
  (34, [(2, 0, 0, 0, 34), (64, 65, 1, 42, 35), (55, 38, 0, 0, 38)]),
  (38, [(2, 0, 0, 0, 38), (16, 4, 5, 32, 39), (2, 0, 0, 0, 42), (16, 4, 4, 28, 43), (45, 72, 49, 0, 46)]),
  (49, [(2, 0, 0, 0, 49), (64, 72, 1, 45, 50), (48, 63, 56, 0, 53)]),
  (56, [(2, 0, 0, 0, 56), (64, 71, 1, 48, 57), (49, 65, 63, 0, 60)]),
  (63, [(5, 0, 0, 0, 63), (72, 0, 0, 0, 64)]),
  (65, [(2, 0, 0, 0, 65), (64, 65, 1, 42, 66), (54, 38, 0, 0, 69)]),
  (72, [(5, 1, 0, 0, 72), (72, 0, 0, 0, 73)])]
/-- java/lang/Math.min -/
def zb_63 : List (Nat × List zO) := [
  (0, [(0, 0, 0, 0, 0), (0, 1, 0, 0, 1), (46, 9, 5, 0, 2)]),
  (5, [(0, 0, 0, 0, 5), (54, 10, 0, 0, 6)]),
  (9, [(0, 1, 0, 0, 9), (55, 10, 0, 0, 10)]),
  (10, [(70, 0, 0, 0, 10)])]
/-- CC$TextReader.takeHead -/
def zb_64 : List (Nat × List zO) := [
  (0, [(2, 0, 0, 0, 0), (64, 65, 1, 42, 1), (2, 0, 0, 0, 4), (64, 66, 1, 51, 5), (10, 1, 0, 0, 8), (2, 0, 0, 0, 9), (79, 6, 0, 55, 10), (0, 1, 0, 0, 12), (64, 67, 3, 57, 13), (49, 29, 19, 0, 16)]),
  (19, [(2, 0, 0, 0, 19), (5, 1, 0, 0, 20), (2, 0, 0, 0, 21), (16, 4, 5, 32, 22), (64, 68, 3, 61, 25), (72, 0, 0, 0, 28)]),
  (29, [(2, 0, 0, 0, 29), (0, 1, 0, 0, 30), (18, 4, 5, 32, 31), (2, 0, 0, 0, 34), (5, 2, 0, 0, 35), (6, 8, 0, 0, 36), (64, 69, 3, 65, 38), (49, 46, 44, 0, 41)]),
  (44, [(5, 0, 0, 0, 44), (72, 0, 0, 0, 45)]),
  (46, [(2, 0, 0, 0, 46), (17, 4, 0, 12, 47), (2, 0, 0, 0, 50), (16, 4, 6, 68, 51), (64, 7, 2, 71, 54), (2, 0, 0, 0, 57), (64, 71, 1, 48, 58), (72, 0, 0, 0, 61)])]
/-- CC$TextReader.skipBlanks -/
def zb_65 : List (Nat × List zO) := [
  (0, [(2, 0, 0, 0, 0), (16, 4, 5, 32, 1), (2, 0, 0, 0, 4), (16, 4, 4, 28, 5), (45, 38, 11, 0, 8)]),
  (11, [(2, 0, 0, 0, 11), (17, 4, 3, 18, 12), (2, 0, 0, 0, 15), (16, 4, 5, 32, 16), (32, 0, 0, 0, 19), (6, 32, 0, 0, 20), (43, 38, 25, 0, 22)]),
  (25, [(2, 0, 0, 0, 25), (39, 0, 0, 0, 26), (16, 4, 5, 32, 27), (5, 1, 0, 0, 30), (20, 0, 0, 0, 31), (18, 4, 5, 32, 32), (54, 0, 0, 0, 35)]),
  (38, [(69, 0, 0, 0, 38)])]
/-- CC$TextReader.wordEnd -/
def zb_66 : List (Nat × List zO) := [
  (0, [(2, 0, 0, 0, 0), (16, 4, 5, 32, 1), (10, 1, 0, 0, 4), (55, 5, 0, 0, 5)]),
  (5, [(0, 1, 0, 0, 5), (2, 0, 0, 0, 6), (16, 4, 4, 28, 7), (45, 41, 13, 0, 10)]),
  (13, [(2, 0, 0, 0, 13), (17, 4, 3, 18, 14), (0, 1, 0, 0, 17), (32, 0, 0, 0, 18), (6, 97, 0, 0, 19), (44, 41, 24, 0, 21)]),
  (24, [(2, 0, 0, 0, 24), (17, 4, 3, 18, 25), (0, 1, 0, 0, 28), (32, 0, 0, 0, 29), (6, 122, 0, 0, 30), (46, 41, 35, 0, 32)]),
  (35, [(15, 1, 1, 0, 35), (54, 5, 0, 0, 38)]),
  (41, [(0, 1, 0, 0, 41), (70, 0, 0, 0, 42)])]
/-- CC$TextReader.isWord -/
def zb_67 : List (Nat × List zO) := [
  (0, [(0, 2, 0, 0, 0), (2, 0, 0, 0, 1), (16, 4, 5, 32, 2), (21, 0, 0, 0, 5), (2, 1, 0, 0, 6), (81, 0, 0, 119, 7), (42, 15, 13, 0, 10)]),
  (13, [(5, 0, 0, 0, 13), (72, 0, 0, 0, 14)]),
  (15, [(5, 0, 0, 0, 15), (10, 3, 0, 0, 16), (55, 17, 0, 0, 17)]),
  (17, [(0, 3, 0, 0, 17), (2, 1, 0, 0, 18), (81, 0, 0, 119, 19), (45, 52, 25, 0, 22)]),
  (25, [(2, 0, 0, 0, 25), (17, 4, 3, 18, 26), (2, 0, 0, 0, 29), (16, 4, 5, 32, 30), (0, 3, 0, 0, 33), (20, 0, 0, 0, 34), (32, 0, 0, 0, 35), (2, 1, 0, 0, 36), (0, 3, 0, 0, 37), (82, 0, 0, 123, 38), (42, 46, 44, 0, 41)]),
  (44, [(5, 0, 0, 0, 44), (72, 0, 0, 0, 45)]),
  (46, [(15, 3, 1, 0, 46), (54, 17, 0, 0, 49)]),
  (52, [(5, 1, 0, 0, 52), (72, 0, 0, 0, 53)])]
/-- CC$TextReader.fails -/
def zb_68 : List (Nat × List zO) := [
  (0, [(2, 0, 0, 0, 0), (0, 1, 0, 0, 1), (18, 4, 1, 127, 2), (2, 0, 0, 0, 5), (0, 2, 0, 0, 6), (18, 4, 2, 130, 7), (5, 0, 0, 0, 10), (72, 0, 0, 0, 11)])]
/-- CC$TextReader.takeNumber -/
def zb_69 : List (Nat × List zO) := [
  (0, [(2, 0, 0, 0, 0), (64, 65, 1, 42, 1), (2, 0, 0, 0, 4), (2, 0, 0, 0, 5), (16, 4, 5, 32, 6), (18, 4, 7, 103, 9), (2, 0, 0, 0, 12), (5, 0, 0, 0, 13), (18, 4, 6, 68, 14), (55, 17, 0, 0, 17)]),
  (17, [(2, 0, 0, 0, 17), (16, 4, 5, 32, 18), (2, 0, 0, 0, 21), (16, 4, 4, 28, 22), (45, 82, 28, 0, 25)]),
  (28, [(2, 0, 0, 0, 28), (2, 0, 0, 0, 29), (16, 4, 5, 32, 30), (64, 70, 2, 106, 33), (48, 82, 39, 0, 36)]),
  (39, [(2, 0, 0, 0, 39), (7, 1000, 0, 0, 40), (6, 10, 0, 0, 43), (2, 0, 0, 0, 45), (16, 4, 6, 68, 46), (22, 0, 0, 0, 49), (2, 0, 0, 0, 50), (17, 4, 3, 18, 51), (2, 0, 0, 0, 54), (16, 4, 5, 32, 55), (32, 0, 0, 0, 58), (20, 0, 0, 0, 59), (6, 48, 0, 0, 60), (21, 0, 0, 0, 62), (63, 63, 2, 22, 63), (18, 4, 6, 68, 66), (2, 0, 0, 0, 69), (39, 0, 0, 0, 70), (16, 4, 5, 32, 71), (5, 1, 0, 0, 74), (20, 0, 0, 0, 75), (18, 4, 5, 32, 76), (54, 17, 0, 0, 79)]),
  (82, [(2, 0, 0, 0, 82), (16, 4, 5, 32, 83), (2, 0, 0, 0, 86), (16, 4, 7, 103, 87), (43, 103, 93, 0, 90)]),
  (93, [(2, 0, 0, 0, 93), (5, 1, 0, 0, 94), (2, 0, 0, 0, 95), (16, 4, 5, 32, 96), (64, 68, 3, 61, 99), (72, 0, 0, 0, 102)]),
  (103, [(2, 0, 0, 0, 103), (16, 4, 6, 68, 104), (0, 1, 0, 0, 107), (44, 119, 111, 0, 108)]),
  (111, [(2, 0, 0, 0, 111), (16, 4, 6, 68, 112), (0, 2, 0, 0, 115), (47, 131, 119, 0, 116)]),
  (119, [(2, 0, 0, 0, 119), (5, 2, 0, 0, 120), (2, 0, 0, 0, 121), (16, 4, 7, 103, 122), (64, 68, 3, 61, 125), (48, 135, 131, 0, 128)]),
  (131, [(5, 1, 0, 0, 131), (54, 136, 0, 0, 132)]),
  (135, [(5, 0, 0, 0, 135), (55, 136, 0, 0, 136)]),
  (136, [(72, 0, 0, 0, 136)])]
/-- CC$TextReader.isDigit -/
def zb_70 : List (Nat × List zO) := [
  (0, [(2, 0, 0, 0, 0), (17, 4, 3, 18, 1), (0, 1, 0, 0, 4), (32, 0, 0, 0, 5), (6, 48, 0, 0, 6), (44, 26, 11, 0, 8)]),
  (11, [(2, 0, 0, 0, 11), (17, 4, 3, 18, 12), (0, 1, 0, 0, 15), (32, 0, 0, 0, 16), (6, 57, 0, 0, 17), (46, 26, 22, 0, 19)]),
  (22, [(5, 1, 0, 0, 22), (54, 27, 0, 0, 23)]),
  (26, [(5, 0, 0, 0, 26), (55, 27, 0, 0, 27)]),
  (27, [(72, 0, 0, 0, 27)])]
/-- CC$TextReader.takeEnd -/
def zb_71 : List (Nat × List zO) := [
  (0, [(2, 0, 0, 0, 0), (64, 65, 1, 42, 1), (2, 0, 0, 0, 4), (16, 4, 5, 32, 5), (2, 0, 0, 0, 8), (16, 4, 4, 28, 9), (45, 29, 15, 0, 12)]),
  (15, [(2, 0, 0, 0, 15), (17, 4, 3, 18, 16), (2, 0, 0, 0, 19), (16, 4, 5, 32, 20), (32, 0, 0, 0, 23), (6, 59, 0, 0, 24), (42, 39, 29, 0, 26)]),
  (29, [(2, 0, 0, 0, 29), (5, 1, 0, 0, 30), (2, 0, 0, 0, 31), (16, 4, 5, 32, 32), (64, 68, 3, 61, 35), (72, 0, 0, 0, 38)]),
  (39, [(2, 0, 0, 0, 39), (39, 0, 0, 0, 40), (16, 4, 5, 32, 41), (5, 1, 0, 0, 44), (20, 0, 0, 0, 45), (18, 4, 5, 32, 46), (5, 1, 0, 0, 49), (72, 0, 0, 0, 50)])]
/-- CC$TextReader.takeLine -/
def zb_72 : List (Nat × List zO) := [
  (0, [(2, 0, 0, 0, 0), (64, 66, 1, 51, 1), (10, 1, 0, 0, 4), (2, 0, 0, 0, 5), (0, 1, 0, 0, 6), (64, 73, 2, 75, 7), (10, 2, 0, 0, 10), (0, 2, 0, 0, 11), (5, 4294967295, 0, 0, 12), (43, 26, 16, 0, 13)]),
  (16, [(2, 0, 0, 0, 16), (5, 1, 0, 0, 17), (2, 0, 0, 0, 18), (16, 4, 5, 32, 19), (64, 68, 3, 61, 22), (72, 0, 0, 0, 25)]),
  (26, [(2, 0, 0, 0, 26), (16, 4, 8, 35, 27), (5, 1, 0, 0, 30), (0, 2, 0, 0, 31), (26, 0, 0, 0, 32), (23, 0, 0, 0, 33), (48, 47, 37, 0, 34)]),
  (37, [(2, 0, 0, 0, 37), (5, 4, 0, 0, 38), (2, 0, 0, 0, 39), (16, 4, 5, 32, 40), (64, 68, 3, 61, 43), (72, 0, 0, 0, 46)]),
  (47, [(2, 0, 0, 0, 47), (39, 0, 0, 0, 48), (16, 4, 8, 35, 49), (5, 1, 0, 0, 52), (0, 2, 0, 0, 53), (26, 0, 0, 0, 54), (24, 0, 0, 0, 55), (18, 4, 8, 35, 56), (2, 0, 0, 0, 59), (0, 1, 0, 0, 60), (18, 4, 5, 32, 61), (0, 2, 0, 0, 64), (49, 73, 68, 0, 65)]),
  (68, [(2, 0, 0, 0, 68), (64, 74, 1, 79, 69), (72, 0, 0, 0, 72)]),
  (73, [(0, 2, 0, 0, 73), (5, 1, 0, 0, 74), (43, 99, 78, 0, 75)]),
  (78, [(2, 0, 0, 0, 78), (5, 1, 0, 0, 79), (6, 6, 0, 0, 80), (64, 69, 3, 65, 82), (10, 3, 0, 0, 85), (2, 0, 0, 0, 86), (17, 4, 0, 12, 87), (2, 0, 0, 0, 90), (16, 4, 6, 68, 91), (18, 3, 1, 82, 94), (0, 3, 0, 0, 97), (72, 0, 0, 0, 98)]),
  (99, [(2, 0, 0, 0, 99), (0, 2, 0, 0, 100), (5, 2, 0, 0, 101), (21, 0, 0, 0, 102), (64, 75, 2, 85, 103), (72, 0, 0, 0, 106)])]
/-- CC$TextReader.lineOf -/
def zb_73 : List (Nat × List zO) := [
  (0, [(2, 0, 0, 0, 0), (79, 7, 0, 109, 1), (0, 1, 0, 0, 3), (64, 67, 3, 57, 4), (48, 12, 10, 0, 7)]),
  (10, [(5, 0, 0, 0, 10), (70, 0, 0, 0, 11)]),
  (12, [(2, 0, 0, 0, 12), (79, 8, 0, 110, 13), (0, 1, 0, 0, 15), (64, 67, 3, 57, 16), (48, 24, 22, 0, 19)]),
  (22, [(5, 1, 0, 0, 22), (70, 0, 0, 0, 23)]),
  (24, [(2, 0, 0, 0, 24), (79, 9, 0, 111, 25), (0, 1, 0, 0, 27), (64, 67, 3, 57, 28), (48, 36, 34, 0, 31)]),
  (34, [(5, 2, 0, 0, 34), (70, 0, 0, 0, 35)]),
  (36, [(2, 0, 0, 0, 36), (79, 10, 0, 113, 37), (0, 1, 0, 0, 39), (64, 67, 3, 57, 40), (48, 48, 46, 0, 43)]),
  (46, [(5, 3, 0, 0, 46), (70, 0, 0, 0, 47)]),
  (48, [(2, 0, 0, 0, 48), (79, 11, 0, 115, 49), (0, 1, 0, 0, 51), (64, 67, 3, 57, 52), (48, 60, 58, 0, 55)]),
  (58, [(5, 4, 0, 0, 58), (70, 0, 0, 0, 59)]),
  (60, [(2, 0, 0, 0, 60), (79, 12, 0, 117, 61), (0, 1, 0, 0, 63), (64, 67, 3, 57, 64), (48, 74, 70, 0, 67)]),
  (70, [(5, 5, 0, 0, 70), (54, 75, 0, 0, 71)]),
  (74, [(5, 4294967295, 0, 0, 74), (55, 75, 0, 0, 75)]),
  (75, [(70, 0, 0, 0, 75)])]
/-- CC$TextReader.takeRanks -/
def zb_74 : List (Nat × List zO) := [
  (0, [(5, 0, 0, 0, 0), (10, 1, 0, 0, 1), (55, 2, 0, 0, 2)]),
  (2, [(0, 1, 0, 0, 2), (2, 0, 0, 0, 3), (17, 4, 0, 12, 4), (16, 3, 0, 98, 7), (45, 83, 13, 0, 10)]),
  (13, [(2, 0, 0, 0, 13), (5, 0, 0, 0, 14), (6, 99, 0, 0, 15), (64, 69, 3, 65, 17), (49, 25, 23, 0, 20)]),
  (23, [(5, 0, 0, 0, 23), (72, 0, 0, 0, 24)]),
  (25, [(5, 0, 0, 0, 25), (10, 2, 0, 0, 26), (55, 27, 0, 0, 27)]),
  (27, [(0, 2, 0, 0, 27), (0, 1, 0, 0, 28), (45, 64, 32, 0, 29)]),
  (32, [(2, 0, 0, 0, 32), (17, 4, 0, 12, 33), (17, 3, 3, 100, 36), (0, 2, 0, 0, 39), (32, 0, 0, 0, 40), (2, 0, 0, 0, 41), (16, 4, 6, 68, 42), (43, 58, 48, 0, 45)]),
  (48, [(2, 0, 0, 0, 48), (5, 3, 0, 0, 49), (2, 0, 0, 0, 50), (16, 4, 7, 103, 51), (64, 68, 3, 61, 54), (72, 0, 0, 0, 57)]),
  (58, [(15, 2, 1, 0, 58), (54, 27, 0, 0, 61)]),
  (64, [(2, 0, 0, 0, 64), (17, 4, 0, 12, 65), (17, 3, 3, 100, 68), (0, 1, 0, 0, 71), (2, 0, 0, 0, 72), (16, 4, 6, 68, 73), (33, 0, 0, 0, 76), (15, 1, 1, 0, 77), (54, 2, 0, 0, 80)]),
  (83, [(5, 1, 0, 0, 83), (72, 0, 0, 0, 84)])]
/-- CC$TextReader.takeRule -/
def zb_75 : List (Nat × List zO) := [
  (0, [(0, 1, 0, 0, 0), (50, 26, 4, 0, 1)]),
  (4, [(0, 1, 0, 0, 4), (5, 4, 0, 0, 5), (45, 26, 9, 0, 6)]),
  (9, [(2, 0, 0, 0, 9), (85, 2, 0, 89, 10), (0, 1, 0, 0, 13), (32, 0, 0, 0, 14), (85, 3, 0, 92, 15), (0, 1, 0, 0, 18), (32, 0, 0, 0, 19), (64, 69, 3, 65, 20), (49, 28, 26, 0, 23)]),
  (26, [(5, 0, 0, 0, 26), (72, 0, 0, 0, 27)]),
  (28, [(2, 0, 0, 0, 28), (17, 4, 0, 12, 29), (17, 3, 2, 95, 32), (0, 1, 0, 0, 35), (2, 0, 0, 0, 36), (16, 4, 6, 68, 37), (33, 0, 0, 0, 40), (5, 1, 0, 0, 41), (72, 0, 0, 0, 42)])]
/-- CCLaw.ticks -/
def zb_76 : List (Nat × List zO) := [
  (0, [(2, 2, 0, 0, 0), (5, 0, 0, 0, 1), (2, 0, 0, 0, 2), (0, 1, 0, 0, 3), (64, 77, 2, 15, 4), (57, 0, 0, 0, 7), (38, 0, 0, 0, 8), (54, 15, 0, 0, 9)]),
  (13, [(5, 1, 0, 0, 13), (70, 0, 0, 0, 14)]),
  (15, [(5, 0, 0, 0, 15), (70, 0, 0, 0, 16)])]
/-- CC.ticks -/
def zb_77 : List (Nat × List zO) := [
  (0, [(2, 0, 0, 0, 0), (0, 1, 0, 0, 1), (5, 1, 0, 0, 2), (44, 16, 6, 0, 3)]),
  (6, [(0, 1, 0, 0, 6), (6, 100, 0, 0, 7), (46, 16, 12, 0, 9)]),
  (12, [(5, 1, 0, 0, 12), (54, 17, 0, 0, 13)]),
  (16, [(5, 0, 0, 0, 16), (55, 17, 0, 0, 17)]),
  (17, [(64, 61, 2, 65, 17), (2, 0, 0, 0, 20), (64, 24, 1, 87, 21), (2, 0, 0, 0, 24), (17, 6, 5, 30, 25), (0, 1, 0, 0, 28), (64, 78, 2, 90, 29), (70, 0, 0, 0, 32)])]
/-- CC$World.run -/
def zb_78 : List (Nat × List zO) := [
  (0, [(5, 0, 0, 0, 0), (10, 2, 0, 0, 1), (5, 0, 0, 0, 2), (10, 3, 0, 0, 3), (55, 4, 0, 0, 4)]),
  (4, [(0, 3, 0, 0, 4), (0, 1, 0, 0, 5), (45, 22, 9, 0, 6)]),
  (9, [(0, 2, 0, 0, 9), (2, 0, 0, 0, 10), (64, 79, 1, 106, 11), (20, 0, 0, 0, 14), (10, 2, 0, 0, 15), (15, 3, 1, 0, 16), (54, 4, 0, 0, 19)]),
  (22, [(0, 2, 0, 0, 22), (70, 0, 0, 0, 23)])]
/-- CC$World.tick -/
def zb_79 : List (Nat × List zO) := [
  (0, [(2, 0, 0, 0, 0), (64, 34, 1, 109, 1), (10, 1, 0, 0, 4), (5, 0, 0, 0, 5), (10, 2, 0, 0, 6), (55, 7, 0, 0, 7)]),
  (7, [(0, 2, 0, 0, 7), (2, 0, 0, 0, 8), (16, 5, 0, 43, 9), (45, 54, 15, 0, 12)]),
  (15, [(2, 0, 0, 0, 15), (2, 0, 0, 0, 16), (17, 5, 5, 20, 17), (0, 2, 0, 0, 20), (34, 0, 0, 0, 21), (64, 80, 2, 112, 22), (2, 0, 0, 0, 25), (17, 5, 5, 20, 26), (0, 2, 0, 0, 29), (34, 0, 0, 0, 30), (17, 2, 14, 115, 31), (2, 0, 0, 0, 34), (17, 5, 5, 20, 35), (0, 2, 0, 0, 38), (34, 0, 0, 0, 39), (16, 2, 3, 97, 40), (40, 0, 0, 0, 43), (32, 0, 0, 0, 44), (5, 1, 0, 0, 45), (20, 0, 0, 0, 46), (33, 0, 0, 0, 47), (15, 2, 1, 0, 48), (54, 7, 0, 0, 51)]),
  (54, [(0, 1, 0, 0, 54), (70, 0, 0, 0, 55)])]
/-- CC$World.labour -/
def zb_80 : List (Nat × List zO) := [
  (0, [(2, 0, 0, 0, 0), (2, 1, 0, 0, 1), (64, 81, 2, 241, 2), (10, 2, 0, 0, 5), (5, 4294967295, 0, 0, 6), (10, 3, 0, 0, 7), (5, 0, 0, 0, 8), (11, 4, 0, 0, 9), (55, 11, 0, 0, 11)]),
  (11, [(1, 4, 0, 0, 11), (2, 0, 0, 0, 13), (16, 5, 1, 47, 14), (45, 59, 20, 0, 17)]),
  (20, [(0, 2, 0, 0, 20), (5, 1, 0, 0, 21), (1, 4, 0, 0, 22), (26, 0, 0, 0, 24), (23, 0, 0, 0, 25), (48, 53, 29, 0, 26)]),
  (29, [(0, 3, 0, 0, 29), (5, 4294967295, 0, 0, 30), (42, 50, 34, 0, 31)]),
  (34, [(2, 1, 0, 0, 34), (17, 2, 12, 208, 35), (1, 4, 0, 0, 38), (32, 0, 0, 0, 40), (2, 1, 0, 0, 41), (17, 2, 12, 208, 42), (0, 3, 0, 0, 45), (32, 0, 0, 0, 46), (45, 53, 50, 0, 47)]),
  (50, [(1, 4, 0, 0, 50), (10, 3, 0, 0, 52), (55, 53, 0, 0, 53)]),
  (53, [(15, 4, 1, 0, 53), (54, 11, 0, 0, 56)]),
  (59, [(0, 3, 0, 0, 59), (5, 4294967295, 0, 0, 60), (42, 84, 64, 0, 61)]),
  (64, [(2, 1, 0, 0, 64), (17, 2, 12, 208, 65), (0, 3, 0, 0, 68), (40, 0, 0, 0, 69), (32, 0, 0, 0, 70), (5, 1, 0, 0, 71), (20, 0, 0, 0, 72), (33, 0, 0, 0, 73), (2, 1, 0, 0, 74), (17, 2, 13, 245, 75), (0, 3, 0, 0, 78), (40, 0, 0, 0, 79), (32, 0, 0, 0, 80), (5, 1, 0, 0, 81), (20, 0, 0, 0, 82), (33, 0, 0, 0, 83), (55, 84, 0, 0, 84)]),
  (84, [(69, 0, 0, 0, 84)])]
/-- CC$World.partOf -/
def zb_81 : List (Nat × List zO) := [
  (0, [(2, 1, 0, 0, 0), (16, 2, 7, 172, 1), (63, 13, 1, 91, 4), (10, 2, 0, 0, 7), (2, 1, 0, 0, 8), (16, 2, 3, 97, 9), (49, 19, 15, 0, 12)]),
  (15, [(0, 2, 0, 0, 15), (49, 21, 19, 0, 16)]),
  (19, [(5, 0, 0, 0, 19), (70, 0, 0, 0, 20)]),
  (21, [(5, 0, 0, 0, 21), (10, 3, 0, 0, 22), (2, 1, 0, 0, 23), (16, 2, 7, 172, 24), (2, 1, 0, 0, 27), (16, 2, 2, 71, 28), (23, 0, 0, 0, 31), (63, 13, 1, 91, 32), (11, 4, 0, 0, 35), (55, 37, 0, 0, 37)]),
  (37, [(1, 4, 0, 0, 37), (2, 0, 0, 0, 39), (16, 5, 1, 47, 40), (45, 62, 46, 0, 43)]),
  (46, [(0, 3, 0, 0, 46), (5, 1, 0, 0, 47), (1, 4, 0, 0, 48), (26, 0, 0, 0, 50), (24, 0, 0, 0, 51), (10, 3, 0, 0, 52), (1, 4, 0, 0, 53), (0, 2, 0, 0, 55), (20, 0, 0, 0, 56), (11, 4, 0, 0, 57), (54, 37, 0, 0, 59)]),
  (62, [(0, 3, 0, 0, 62), (70, 0, 0, 0, 63)])]
/-- CCLaw.cut -/
def zb_82 : List (Nat × List zO) := [
  (0, [(2, 2, 0, 0, 0), (5, 0, 0, 0, 1), (2, 0, 0, 0, 2), (0, 1, 0, 0, 3), (64, 83, 2, 18, 4), (57, 0, 0, 0, 7), (38, 0, 0, 0, 8), (54, 15, 0, 0, 9)]),
  (13, [(5, 1, 0, 0, 13), (70, 0, 0, 0, 14)]),
  (15, [(5, 0, 0, 0, 15), (70, 0, 0, 0, 16)])]
/-- CC.cut -/
def zb_83 : List (Nat × List zO) := [
  (0, [(2, 0, 0, 0, 0), (2, 0, 0, 0, 1), (17, 6, 5, 30, 2), (0, 1, 0, 0, 5), (64, 84, 2, 94, 6), (64, 61, 2, 65, 9), (2, 0, 0, 0, 12), (64, 24, 1, 87, 13), (2, 0, 0, 0, 16), (17, 6, 5, 30, 17), (0, 1, 0, 0, 20), (64, 85, 2, 98, 21), (70, 0, 0, 0, 24)])]
/-- CC$World.isSet -/
def zb_84 : List (Nat × List zO) := [
  (0, [(0, 1, 0, 0, 0), (2, 0, 0, 0, 1), (64, 12, 1, 88, 2), (5, 4294967295, 0, 0, 5), (25, 0, 0, 0, 6), (23, 0, 0, 0, 7), (49, 15, 11, 0, 8)]),
  (11, [(5, 1, 0, 0, 11), (54, 16, 0, 0, 12)]),
  (15, [(5, 0, 0, 0, 15), (55, 16, 0, 0, 16)]),
  (16, [(72, 0, 0, 0, 16)])]
/-- CC$World.sever -/
def zb_85 : List (Nat × List zO) := [
  (0, [(5, 0, 0, 0, 0), (10, 2, 0, 0, 1), (2, 0, 0, 0, 2), (64, 12, 1, 88, 3), (0, 1, 0, 0, 6), (5, 4294967295, 0, 0, 7), (25, 0, 0, 0, 8), (23, 0, 0, 0, 9), (10, 3, 0, 0, 10), (5, 0, 0, 0, 11), (11, 4, 0, 0, 12), (55, 14, 0, 0, 14)]),
  (14, [(1, 4, 0, 0, 14), (2, 0, 0, 0, 16), (16, 5, 0, 43, 17), (45, 82, 23, 0, 20)]),
  (23, [(0, 1, 0, 0, 23), (5, 1, 0, 0, 24), (1, 4, 0, 0, 25), (26, 0, 0, 0, 27), (23, 0, 0, 0, 28), (48, 63, 32, 0, 29)]),
  (32, [(0, 2, 0, 0, 32), (2, 0, 0, 0, 33), (17, 5, 4, 15, 34), (1, 4, 0, 0, 37), (32, 0, 0, 0, 39), (0, 3, 0, 0, 40), (23, 0, 0, 0, 41), (63, 13, 1, 91, 42), (20, 0, 0, 0, 45), (10, 2, 0, 0, 46), (2, 0, 0, 0, 47), (17, 5, 4, 15, 48), (1, 4, 0, 0, 51), (40, 0, 0, 0, 53), (32, 0, 0, 0, 54), (0, 3, 0, 0, 55), (5, 4294967295, 0, 0, 56), (25, 0, 0, 0, 57), (23, 0, 0, 0, 58), (33, 0, 0, 0, 59), (54, 76, 0, 0, 60)]),
  (63, [(2, 0, 0, 0, 63), (17, 5, 4, 15, 64), (1, 4, 0, 0, 67), (40, 0, 0, 0, 69), (32, 0, 0, 0, 70), (0, 1, 0, 0, 71), (5, 4294967295, 0, 0, 72), (25, 0, 0, 0, 73), (23, 0, 0, 0, 74), (33, 0, 0, 0, 75), (55, 76, 0, 0, 76)]),
  (76, [(15, 4, 1, 0, 76), (54, 14, 0, 0, 79)]),
  (82, [(0, 2, 0, 0, 82), (70, 0, 0, 0, 83)])]
/-- CCLaw.fall -/
def zb_86 : List (Nat × List zO) := [
  (0, [(2, 2, 0, 0, 0), (5, 0, 0, 0, 1), (2, 0, 0, 0, 2), (0, 1, 0, 0, 3), (64, 87, 2, 21, 4), (57, 0, 0, 0, 7), (38, 0, 0, 0, 8), (54, 18, 0, 0, 9)]),
  (13, [(5, 1, 0, 0, 13), (70, 0, 0, 0, 14)]),
  (16, [(5, 2, 0, 0, 16), (70, 0, 0, 0, 17)]),
  (18, [(5, 0, 0, 0, 18), (70, 0, 0, 0, 19)])]
/-- CC.fall -/
def zb_87 : List (Nat × List zO) := [
  (0, [(2, 0, 0, 0, 0), (0, 1, 0, 0, 1), (64, 88, 2, 105, 2), (2, 0, 0, 0, 5), (2, 0, 0, 0, 6), (17, 6, 5, 30, 7), (17, 5, 5, 108, 10), (0, 1, 0, 0, 13), (34, 0, 0, 0, 14), (16, 2, 3, 112, 15), (5, 2, 0, 0, 18), (42, 26, 22, 0, 19)]),
  (22, [(5, 1, 0, 0, 22), (54, 27, 0, 0, 23)]),
  (26, [(5, 0, 0, 0, 26), (55, 27, 0, 0, 27)]),
  (27, [(64, 90, 2, 117, 27), (2, 0, 0, 0, 30), (64, 24, 1, 87, 31), (2, 0, 0, 0, 34), (17, 6, 5, 30, 35), (0, 1, 0, 0, 38), (64, 91, 2, 120, 39), (2, 0, 0, 0, 42), (17, 6, 5, 30, 43), (17, 5, 6, 123, 46), (0, 1, 0, 0, 49), (64, 92, 2, 127, 50), (70, 0, 0, 0, 53)])]
/-- CC.needMember -/
def zb_88 : List (Nat × List zO) := [
  (0, [(2, 0, 0, 0, 0), (0, 1, 0, 0, 1), (50, 20, 5, 0, 2)]),
  (5, [(0, 1, 0, 0, 5), (2, 0, 0, 0, 6), (17, 6, 5, 30, 7), (16, 5, 0, 84, 10), (45, 20, 16, 0, 13)]),
  (16, [(5, 1, 0, 0, 16), (54, 21, 0, 0, 17)]),
  (20, [(5, 0, 0, 0, 20), (55, 21, 0, 0, 21)]),
  (21, [(64, 89, 2, 250, 21), (69, 0, 0, 0, 24)])]
/-- CC.needElement -/
def zb_89 : List (Nat × List zO) := [
  (0, [(0, 1, 0, 0, 0), (49, 25, 4, 0, 1)]),
  (4, [(2, 0, 0, 0, 4), (17, 6, 3, 17, 5), (5, 0, 0, 0, 8), (40, 0, 0, 0, 9), (32, 0, 0, 0, 10), (5, 1, 0, 0, 11), (20, 0, 0, 0, 12), (33, 0, 0, 0, 13), (83, 0, 0, 0, 14)]),
  (25, [(69, 0, 0, 0, 25)])]
/-- CC.needState -/
def zb_90 : List (Nat × List zO) := [
  (0, [(0, 1, 0, 0, 0), (49, 25, 4, 0, 1)]),
  (4, [(2, 0, 0, 0, 4), (17, 6, 3, 17, 5), (5, 2, 0, 0, 8), (40, 0, 0, 0, 9), (32, 0, 0, 0, 10), (5, 1, 0, 0, 11), (20, 0, 0, 0, 12), (33, 0, 0, 0, 13), (83, 2, 0, 0, 14)]),
  (25, [(69, 0, 0, 0, 25)])]
/-- CC$World.drop -/
def zb_91 : List (Nat × List zO) := [
  (0, [(2, 0, 0, 0, 0), (17, 5, 5, 20, 1), (0, 1, 0, 0, 4), (34, 0, 0, 0, 5), (5, 2, 0, 0, 6), (18, 2, 3, 97, 7), (2, 0, 0, 0, 10), (17, 5, 5, 20, 11), (0, 1, 0, 0, 14), (34, 0, 0, 0, 15), (5, 0, 0, 0, 16), (18, 2, 10, 100, 17), (69, 0, 0, 0, 20)])]
/-- CC$Mail.underWayTo -/
def zb_92 : List (Nat × List zO) := [
  (0, [(5, 0, 0, 0, 0), (10, 2, 0, 0, 1), (5, 0, 0, 0, 2), (10, 3, 0, 0, 3), (55, 4, 0, 0, 4)]),
  (4, [(0, 3, 0, 0, 4), (2, 0, 0, 0, 5), (16, 1, 1, 21, 6), (45, 31, 12, 0, 9)]),
  (12, [(2, 0, 0, 0, 12), (0, 3, 0, 0, 13), (5, 1, 0, 0, 14), (64, 35, 3, 51, 15), (0, 1, 0, 0, 18), (43, 25, 22, 0, 19)]),
  (22, [(15, 2, 1, 0, 22), (55, 25, 0, 0, 25)]),
  (25, [(15, 3, 1, 0, 25), (54, 4, 0, 0, 28)]),
  (31, [(0, 2, 0, 0, 31), (70, 0, 0, 0, 32)])]
/-- CCLaw.rise -/
def zb_93 : List (Nat × List zO) := [
  (0, [(2, 2, 0, 0, 0), (5, 0, 0, 0, 1), (2, 0, 0, 0, 2), (0, 1, 0, 0, 3), (64, 94, 2, 28, 4), (57, 0, 0, 0, 7), (38, 0, 0, 0, 8), (54, 18, 0, 0, 9)]),
  (13, [(5, 1, 0, 0, 13), (70, 0, 0, 0, 14)]),
  (16, [(5, 2, 0, 0, 16), (70, 0, 0, 0, 17)]),
  (18, [(5, 0, 0, 0, 18), (70, 0, 0, 0, 19)])]
/-- CC.rise -/
def zb_94 : List (Nat × List zO) := [
  (0, [(2, 0, 0, 0, 0), (0, 1, 0, 0, 1), (64, 88, 2, 105, 2), (2, 0, 0, 0, 5), (2, 0, 0, 0, 6), (17, 6, 5, 30, 7), (17, 5, 5, 108, 10), (0, 1, 0, 0, 13), (34, 0, 0, 0, 14), (16, 2, 3, 112, 15), (5, 2, 0, 0, 18), (43, 26, 22, 0, 19)]),
  (22, [(5, 1, 0, 0, 22), (54, 27, 0, 0, 23)]),
  (26, [(5, 0, 0, 0, 26), (55, 27, 0, 0, 27)]),
  (27, [(64, 90, 2, 117, 27), (2, 0, 0, 0, 30), (64, 24, 1, 87, 31), (2, 0, 0, 0, 34), (17, 6, 5, 30, 35), (2, 0, 0, 0, 38), (17, 6, 5, 30, 39), (17, 5, 5, 108, 42), (0, 1, 0, 0, 45), (34, 0, 0, 0, 46), (64, 15, 2, 132, 47), (2, 0, 0, 0, 50), (17, 6, 5, 30, 51), (17, 5, 5, 108, 54), (0, 1, 0, 0, 57), (34, 0, 0, 0, 58), (16, 2, 6, 136, 59), (70, 0, 0, 0, 62)])]
/-- CCLaw.rule -/
def zb_95 : List (Nat × List zO) := [
  (0, [(2, 3, 0, 0, 0), (5, 0, 0, 0, 1), (2, 0, 0, 0, 2), (0, 1, 0, 0, 3), (0, 2, 0, 0, 4), (64, 96, 3, 31, 5), (57, 0, 0, 0, 8), (38, 0, 0, 0, 9), (54, 17, 0, 0, 10)]),
  (15, [(5, 1, 0, 0, 15), (70, 0, 0, 0, 16)]),
  (17, [(5, 0, 0, 0, 17), (70, 0, 0, 0, 18)])]
/-- CC.rule -/
def zb_96 : List (Nat × List zO) := [
  (0, [(2, 0, 0, 0, 0), (0, 1, 0, 0, 1), (0, 2, 0, 0, 2), (63, 97, 2, 139, 3), (64, 61, 2, 65, 6), (2, 0, 0, 0, 9), (64, 24, 1, 87, 10), (2, 0, 0, 0, 13), (17, 6, 5, 30, 14), (17, 5, 3, 143, 17), (0, 1, 0, 0, 20), (32, 0, 0, 0, 21), (10, 3, 0, 0, 22), (2, 0, 0, 0, 23), (17, 6, 5, 30, 24), (17, 5, 3, 143, 27), (0, 1, 0, 0, 30), (0, 2, 0, 0, 31), (33, 0, 0, 0, 32), (0, 3, 0, 0, 33), (70, 0, 0, 0, 34)])]
/-- CC.isRule -/
def zb_97 : List (Nat × List zO) := [
  (0, [(0, 0, 0, 0, 0), (50, 31, 4, 0, 1)]),
  (4, [(0, 0, 0, 0, 4), (5, 4, 0, 0, 5), (45, 31, 9, 0, 6)]),
  (9, [(0, 1, 0, 0, 9), (78, 2, 0, 324, 10), (0, 0, 0, 0, 13), (32, 0, 0, 0, 14), (44, 31, 18, 0, 15)]),
  (18, [(0, 1, 0, 0, 18), (78, 3, 0, 327, 19), (0, 0, 0, 0, 22), (32, 0, 0, 0, 23), (46, 31, 27, 0, 24)]),
  (27, [(5, 1, 0, 0, 27), (54, 32, 0, 0, 28)]),
  (31, [(5, 0, 0, 0, 31), (55, 32, 0, 0, 32)]),
  (32, [(72, 0, 0, 0, 32)])]
/-- CCLaw.told -/
def zb_98 : List (Nat × List zO) := [
  (0, [(2, 2, 0, 0, 0), (5, 0, 0, 0, 1), (2, 0, 0, 0, 2), (0, 1, 0, 0, 3), (64, 99, 2, 35, 4), (57, 0, 0, 0, 7), (38, 0, 0, 0, 8), (54, 15, 0, 0, 9)]),
  (13, [(5, 1, 0, 0, 13), (70, 0, 0, 0, 14)]),
  (15, [(5, 0, 0, 0, 15), (70, 0, 0, 0, 16)])]
/-- CC.told -/
def zb_99 : List (Nat × List zO) := [
  (0, [(2, 0, 0, 0, 0), (0, 1, 0, 0, 1), (50, 15, 5, 0, 2)]),
  (5, [(0, 1, 0, 0, 5), (6, 18, 0, 0, 6), (46, 15, 11, 0, 8)]),
  (11, [(5, 1, 0, 0, 11), (54, 16, 0, 0, 12)]),
  (15, [(5, 0, 0, 0, 15), (55, 16, 0, 0, 16)]),
  (16, [(64, 61, 2, 65, 16), (0, 1, 0, 0, 19), (56, 2, 0, 92, 20)]),
  (112, [(2, 0, 0, 0, 112), (17, 6, 5, 30, 113), (16, 5, 0, 84, 116), (70, 0, 0, 0, 119)]),
  (120, [(2, 0, 0, 0, 120), (17, 6, 5, 30, 121), (16, 5, 1, 153, 124), (70, 0, 0, 0, 127)]),
  (128, [(2, 0, 0, 0, 128), (17, 6, 5, 30, 129), (16, 5, 2, 156, 132), (70, 0, 0, 0, 135)]),
  (136, [(2, 0, 0, 0, 136), (17, 6, 5, 30, 137), (17, 5, 6, 123, 140), (16, 1, 1, 159, 143), (70, 0, 0, 0, 146)]),
  (147, [(2, 0, 0, 0, 147), (17, 6, 5, 30, 148), (17, 5, 6, 123, 151), (16, 1, 3, 162, 154), (70, 0, 0, 0, 157)]),
  (158, [(2, 0, 0, 0, 158), (17, 6, 5, 30, 159), (63, 100, 1, 165, 162), (70, 0, 0, 0, 165)]),
  (166, [(2, 0, 0, 0, 166), (17, 6, 5, 30, 167), (63, 102, 1, 171, 170), (70, 0, 0, 0, 173)]),
  (174, [(2, 0, 0, 0, 174), (17, 6, 5, 30, 175), (63, 53, 1, 174, 178), (48, 188, 184, 0, 181)]),
  (184, [(5, 1, 0, 0, 184), (54, 189, 0, 0, 185)]),
  (188, [(5, 0, 0, 0, 188), (55, 189, 0, 0, 189)]),
  (189, [(70, 0, 0, 0, 189)]),
  (190, [(2, 0, 0, 0, 190), (17, 6, 5, 30, 191), (63, 103, 1, 178, 194), (48, 204, 200, 0, 197)]),
  (200, [(5, 1, 0, 0, 200), (54, 205, 0, 0, 201)]),
  (204, [(5, 0, 0, 0, 204), (55, 205, 0, 0, 205)]),
  (205, [(70, 0, 0, 0, 205)]),
  (206, [(2, 0, 0, 0, 206), (17, 6, 5, 30, 207), (63, 104, 1, 181, 210), (70, 0, 0, 0, 213)]),
  (214, [(2, 0, 0, 0, 214), (16, 6, 9, 77, 215), (70, 0, 0, 0, 218)]),
  (219, [(2, 0, 0, 0, 219), (16, 6, 1, 59, 220), (70, 0, 0, 0, 223)]),
  (224, [(2, 0, 0, 0, 224), (17, 6, 5, 30, 225), (64, 107, 1, 184, 228), (70, 0, 0, 0, 231)]),
  (232, [(2, 0, 0, 0, 232), (17, 6, 5, 30, 233), (5, 2, 0, 0, 236), (6, 8, 0, 0, 237), (63, 108, 3, 187, 239), (70, 0, 0, 0, 242)]),
  (243, [(2, 0, 0, 0, 243), (17, 6, 5, 30, 244), (5, 0, 0, 0, 247), (5, 0, 0, 0, 248), (63, 108, 3, 187, 249), (70, 0, 0, 0, 252)]),
  (253, [(2, 0, 0, 0, 253), (17, 6, 5, 30, 254), (17, 5, 3, 143, 257), (0, 1, 0, 0, 260), (5, 2, 0, 0, 261), (21, 0, 0, 0, 262), (32, 0, 0, 0, 263), (70, 0, 0, 0, 264)])]
/-- CC$Survey.circles -/
def zb_100 : List (Nat × List zO) := [
  (0, [(5, 0, 0, 0, 0), (10, 1, 0, 0, 1), (5, 0, 0, 0, 2), (10, 2, 0, 0, 3), (55, 4, 0, 0, 4)]),
  (4, [(0, 2, 0, 0, 4), (2, 0, 0, 0, 5), (16, 5, 0, 9, 6), (45, 33, 12, 0, 9)]),
  (12, [(2, 0, 0, 0, 12), (0, 2, 0, 0, 13), (63, 54, 2, 45, 14), (0, 2, 0, 0, 17), (63, 101, 2, 41, 18), (48, 27, 24, 0, 21)]),
  (24, [(15, 1, 1, 0, 24), (55, 27, 0, 0, 27)]),
  (27, [(15, 2, 1, 0, 27), (54, 4, 0, 0, 30)]),
  (33, [(0, 1, 0, 0, 33), (70, 0, 0, 0, 34)])]
/-- CC$Survey.isFirst -/
def zb_101 : List (Nat × List zO) := [
  (0, [(0, 0, 0, 0, 0), (0, 0, 0, 0, 1), (31, 0, 0, 0, 2), (23, 0, 0, 0, 3), (5, 1, 0, 0, 4), (0, 1, 0, 0, 5), (26, 0, 0, 0, 6), (43, 14, 10, 0, 7)]),
  (10, [(5, 1, 0, 0, 10), (54, 15, 0, 0, 11)]),
  (14, [(5, 0, 0, 0, 14), (55, 15, 0, 0, 15)]),
  (15, [(72, 0, 0, 0, 15)])]
/-- CC$Survey.sets -/
def zb_102 : List (Nat × List zO) := [
  (0, [(5, 0, 0, 0, 0), (10, 1, 0, 0, 1), (5, 0, 0, 0, 2), (10, 2, 0, 0, 3), (55, 4, 0, 0, 4)]),
  (4, [(0, 2, 0, 0, 4), (2, 0, 0, 0, 5), (16, 5, 0, 9, 6), (45, 33, 12, 0, 9)]),
  (12, [(2, 0, 0, 0, 12), (0, 2, 0, 0, 13), (63, 55, 2, 37, 14), (0, 2, 0, 0, 17), (63, 101, 2, 41, 18), (48, 27, 24, 0, 21)]),
  (24, [(15, 1, 1, 0, 24), (55, 27, 0, 0, 27)]),
  (27, [(15, 2, 1, 0, 27), (54, 4, 0, 0, 30)]),
  (33, [(0, 1, 0, 0, 33), (70, 0, 0, 0, 34)])]
/-- CC$Survey.isSound -/
def zb_103 : List (Nat × List zO) := [
  (0, [(5, 0, 0, 0, 0), (10, 1, 0, 0, 1), (55, 2, 0, 0, 2)]),
  (2, [(0, 1, 0, 0, 2), (2, 0, 0, 0, 3), (16, 5, 0, 9, 4), (45, 69, 10, 0, 7)]),
  (10, [(2, 0, 0, 0, 10), (0, 1, 0, 0, 11), (63, 54, 2, 45, 12), (10, 2, 0, 0, 15), (5, 0, 0, 0, 16), (10, 3, 0, 0, 17), (55, 18, 0, 0, 18)]),
  (18, [(0, 3, 0, 0, 18), (2, 0, 0, 0, 19), (16, 5, 0, 9, 20), (45, 63, 26, 0, 23)]),
  (26, [(0, 2, 0, 0, 26), (5, 1, 0, 0, 27), (0, 3, 0, 0, 28), (26, 0, 0, 0, 29), (23, 0, 0, 0, 30), (48, 57, 34, 0, 31)]),
  (34, [(2, 0, 0, 0, 34), (17, 5, 5, 15, 35), (0, 3, 0, 0, 38), (34, 0, 0, 0, 39), (16, 2, 4, 51, 40), (2, 0, 0, 0, 43), (17, 5, 5, 15, 44), (0, 1, 0, 0, 47), (34, 0, 0, 0, 48), (16, 2, 4, 51, 49), (42, 57, 55, 0, 52)]),
  (55, [(5, 0, 0, 0, 55), (72, 0, 0, 0, 56)]),
  (57, [(15, 3, 1, 0, 57), (54, 18, 0, 0, 60)]),
  (63, [(15, 1, 1, 0, 63), (54, 2, 0, 0, 66)]),
  (69, [(5, 1, 0, 0, 69), (72, 0, 0, 0, 70)])]
/-- CC$Survey.twice -/
def zb_104 : List (Nat × List zO) := [
  (0, [(5, 0, 0, 0, 0), (10, 1, 0, 0, 1), (5, 0, 0, 0, 2), (10, 2, 0, 0, 3), (55, 4, 0, 0, 4)]),
  (4, [(0, 2, 0, 0, 4), (2, 0, 0, 0, 5), (16, 5, 1, 72, 6), (45, 32, 12, 0, 9)]),
  (12, [(0, 1, 0, 0, 12), (2, 0, 0, 0, 13), (0, 2, 0, 0, 14), (63, 105, 2, 75, 15), (2, 0, 0, 0, 18), (0, 2, 0, 0, 19), (63, 106, 2, 78, 20), (21, 0, 0, 0, 23), (20, 0, 0, 0, 24), (10, 1, 0, 0, 25), (15, 2, 1, 0, 26), (54, 4, 0, 0, 29)]),
  (32, [(0, 1, 0, 0, 32), (70, 0, 0, 0, 33)])]
/-- CC$Survey.workOf -/
def zb_105 : List (Nat × List zO) := [
  (0, [(5, 0, 0, 0, 0), (10, 2, 0, 0, 1), (5, 0, 0, 0, 2), (10, 3, 0, 0, 3), (55, 4, 0, 0, 4)]),
  (4, [(0, 3, 0, 0, 4), (2, 0, 0, 0, 5), (16, 5, 0, 9, 6), (45, 32, 12, 0, 9)]),
  (12, [(0, 2, 0, 0, 12), (2, 0, 0, 0, 13), (17, 5, 5, 15, 14), (0, 3, 0, 0, 17), (34, 0, 0, 0, 18), (17, 2, 13, 54, 19), (0, 1, 0, 0, 22), (32, 0, 0, 0, 23), (20, 0, 0, 0, 24), (10, 2, 0, 0, 25), (15, 3, 1, 0, 26), (54, 4, 0, 0, 29)]),
  (32, [(0, 2, 0, 0, 32), (70, 0, 0, 0, 33)])]
/-- CC$Survey.greatestLedger -/
def zb_106 : List (Nat × List zO) := [
  (0, [(5, 0, 0, 0, 0), (10, 2, 0, 0, 1), (5, 0, 0, 0, 2), (10, 3, 0, 0, 3), (55, 4, 0, 0, 4)]),
  (4, [(0, 3, 0, 0, 4), (2, 0, 0, 0, 5), (16, 5, 0, 9, 6), (45, 34, 12, 0, 9)]),
  (12, [(0, 2, 0, 0, 12), (2, 0, 0, 0, 13), (17, 5, 5, 15, 14), (0, 3, 0, 0, 17), (34, 0, 0, 0, 18), (17, 2, 12, 57, 19), (0, 1, 0, 0, 22), (32, 0, 0, 0, 23), (63, 46, 2, 60, 24), (10, 2, 0, 0, 27), (15, 3, 1, 0, 28), (54, 4, 0, 0, 31)]),
  (34, [(0, 2, 0, 0, 34), (70, 0, 0, 0, 35)])]
/-- CC$World.changesTold -/
def zb_107 : List (Nat × List zO) := [
  (0, [(2, 0, 0, 0, 0), (16, 5, 8, 79, 1), (6, 40, 0, 0, 4), (63, 63, 2, 235, 6), (70, 0, 0, 0, 9)])]
/-- CC$Survey.jobsHeldBy -/
def zb_108 : List (Nat × List zO) := [
  (0, [(5, 0, 0, 0, 0), (10, 3, 0, 0, 1), (5, 0, 0, 0, 2), (11, 4, 0, 0, 3), (55, 5, 0, 0, 5)]),
  (5, [(1, 4, 0, 0, 5), (2, 0, 0, 0, 7), (16, 5, 1, 72, 8), (45, 46, 14, 0, 11)]),
  (14, [(2, 0, 0, 0, 14), (1, 4, 0, 0, 15), (63, 109, 2, 85, 17), (63, 13, 1, 88, 20), (11, 5, 0, 0, 23), (1, 5, 0, 0, 25), (0, 1, 0, 0, 27), (44, 40, 31, 0, 28)]),
  (31, [(1, 5, 0, 0, 31), (0, 2, 0, 0, 33), (46, 40, 37, 0, 34)]),
  (37, [(15, 3, 1, 0, 37), (55, 40, 0, 0, 40)]),
  (40, [(15, 4, 1, 0, 40), (54, 5, 0, 0, 43)]),
  (46, [(0, 3, 0, 0, 46), (70, 0, 0, 0, 47)])]
/-- CC$Survey.holdersOf -/
def zb_109 : List (Nat × List zO) := [
  (0, [(5, 0, 0, 0, 0), (10, 2, 0, 0, 1), (5, 0, 0, 0, 2), (10, 3, 0, 0, 3), (55, 4, 0, 0, 4)]),
  (4, [(0, 3, 0, 0, 4), (2, 0, 0, 0, 5), (16, 5, 0, 9, 6), (45, 41, 12, 0, 9)]),
  (12, [(2, 0, 0, 0, 12), (2, 0, 0, 0, 13), (17, 5, 5, 15, 14), (0, 3, 0, 0, 17), (34, 0, 0, 0, 18), (64, 81, 2, 81, 19), (5, 1, 0, 0, 22), (0, 1, 0, 0, 23), (26, 0, 0, 0, 24), (23, 0, 0, 0, 25), (48, 35, 29, 0, 26)]),
  (29, [(0, 2, 0, 0, 29), (5, 1, 0, 0, 30), (0, 3, 0, 0, 31), (26, 0, 0, 0, 32), (24, 0, 0, 0, 33), (10, 2, 0, 0, 34), (55, 35, 0, 0, 35)]),
  (35, [(15, 3, 1, 0, 35), (54, 4, 0, 0, 38)]),
  (41, [(0, 2, 0, 0, 41), (70, 0, 0, 0, 42)])]
/-- CCLaw.member -/
def zb_110 : List (Nat × List zO) := [
  (0, [(2, 3, 0, 0, 0), (5, 0, 0, 0, 1), (2, 0, 0, 0, 2), (0, 1, 0, 0, 3), (0, 2, 0, 0, 4), (64, 111, 3, 38, 5), (57, 0, 0, 0, 8), (38, 0, 0, 0, 9), (54, 21, 0, 0, 10)]),
  (15, [(5, 1, 0, 0, 15), (70, 0, 0, 0, 16)]),
  (19, [(5, 2, 0, 0, 19), (70, 0, 0, 0, 20)]),
  (21, [(5, 0, 0, 0, 21), (70, 0, 0, 0, 22)])]
/-- CC.member -/
def zb_111 : List (Nat × List zO) := [
  (0, [(2, 0, 0, 0, 0), (0, 1, 0, 0, 1), (64, 88, 2, 105, 2), (2, 0, 0, 0, 5), (0, 2, 0, 0, 6), (50, 20, 10, 0, 7)]),
  (10, [(0, 2, 0, 0, 10), (6, 12, 0, 0, 11), (46, 20, 16, 0, 13)]),
  (16, [(5, 1, 0, 0, 16), (54, 21, 0, 0, 17)]),
  (20, [(5, 0, 0, 0, 20), (55, 21, 0, 0, 21)]),
  (21, [(64, 61, 2, 65, 21), (2, 0, 0, 0, 24), (17, 6, 5, 30, 25), (17, 5, 5, 108, 28), (0, 1, 0, 0, 31), (34, 0, 0, 0, 32), (12, 3, 0, 0, 33), (0, 2, 0, 0, 34), (56, 3, 0, 61, 35)]),
  (96, [(2, 3, 0, 0, 96), (16, 2, 1, 191, 97), (70, 0, 0, 0, 100)]),
  (101, [(2, 3, 0, 0, 101), (16, 2, 3, 112, 102), (70, 0, 0, 0, 105)]),
  (106, [(2, 3, 0, 0, 106), (16, 2, 4, 194, 107), (70, 0, 0, 0, 110)]),
  (111, [(2, 3, 0, 0, 111), (16, 2, 5, 197, 112), (70, 0, 0, 0, 115)]),
  (116, [(2, 3, 0, 0, 116), (16, 2, 6, 136, 117), (70, 0, 0, 0, 120)]),
  (121, [(2, 3, 0, 0, 121), (16, 2, 7, 200, 122), (70, 0, 0, 0, 125)]),
  (126, [(2, 3, 0, 0, 126), (16, 2, 8, 203, 127), (70, 0, 0, 0, 130)]),
  (131, [(2, 3, 0, 0, 131), (16, 2, 10, 206, 132), (70, 0, 0, 0, 135)]),
  (136, [(2, 3, 0, 0, 136), (16, 2, 10, 206, 137), (49, 147, 143, 0, 140)]),
  (143, [(5, 0, 0, 0, 143), (54, 159, 0, 0, 144)]),
  (147, [(2, 3, 0, 0, 147), (16, 2, 11, 209, 148), (2, 0, 0, 0, 151), (17, 6, 5, 30, 152), (16, 5, 2, 156, 155), (21, 0, 0, 0, 158), (55, 159, 0, 0, 159)]),
  (159, [(70, 0, 0, 0, 159)]),
  (160, [(2, 0, 0, 0, 160), (17, 6, 5, 30, 161), (2, 3, 0, 0, 164), (64, 81, 2, 212, 165), (70, 0, 0, 0, 168)]),
  (169, [(2, 0, 0, 0, 169), (17, 6, 5, 30, 170), (0, 1, 0, 0, 173), (63, 55, 2, 216, 174), (70, 0, 0, 0, 177)]),
  (178, [(2, 0, 0, 0, 178), (17, 6, 5, 30, 179), (0, 1, 0, 0, 182), (63, 54, 2, 220, 183), (70, 0, 0, 0, 186)]),
  (187, [(2, 3, 0, 0, 187), (16, 2, 9, 223, 188), (70, 0, 0, 0, 191)])]
/-- CCLaw.units -/
def zb_112 : List (Nat × List zO) := [
  (0, [(3, 4, 0, 0, 0), (5, 0, 0, 0, 2), (2, 0, 0, 0, 3), (0, 1, 0, 0, 4), (0, 2, 0, 0, 5), (0, 3, 0, 0, 6), (64, 113, 4, 41, 7), (57, 0, 0, 0, 10), (38, 0, 0, 0, 11), (54, 23, 0, 0, 12)]),
  (17, [(5, 1, 0, 0, 17), (70, 0, 0, 0, 18)]),
  (21, [(5, 2, 0, 0, 21), (70, 0, 0, 0, 22)]),
  (23, [(5, 0, 0, 0, 23), (70, 0, 0, 0, 24)])]
/-- CC.units -/
def zb_113 : List (Nat × List zO) := [
  (0, [(2, 0, 0, 0, 0), (0, 1, 0, 0, 1), (64, 88, 2, 105, 2), (2, 0, 0, 0, 5), (0, 2, 0, 0, 6), (64, 114, 2, 226, 7), (2, 0, 0, 0, 10), (0, 3, 0, 0, 11), (48, 20, 15, 0, 12)]),
  (15, [(0, 3, 0, 0, 15), (5, 1, 0, 0, 16), (43, 24, 20, 0, 17)]),
  (20, [(5, 1, 0, 0, 20), (54, 25, 0, 0, 21)]),
  (24, [(5, 0, 0, 0, 24), (55, 25, 0, 0, 25)]),
  (25, [(64, 61, 2, 65, 25), (2, 0, 0, 0, 28), (17, 6, 5, 30, 29), (17, 5, 5, 108, 32), (0, 1, 0, 0, 35), (34, 0, 0, 0, 36), (13, 4, 0, 0, 37), (0, 3, 0, 0, 39), (49, 53, 43, 0, 40)]),
  (43, [(3, 4, 0, 0, 43), (17, 2, 12, 229, 45), (0, 2, 0, 0, 48), (32, 0, 0, 0, 49), (54, 60, 0, 0, 50)]),
  (53, [(3, 4, 0, 0, 53), (17, 2, 13, 232, 55), (0, 2, 0, 0, 58), (32, 0, 0, 0, 59), (55, 60, 0, 0, 60)]),
  (60, [(70, 0, 0, 0, 60)])]
/-- CC.needJob -/
def zb_114 : List (Nat × List zO) := [
  (0, [(2, 0, 0, 0, 0), (0, 1, 0, 0, 1), (50, 20, 5, 0, 2)]),
  (5, [(0, 1, 0, 0, 5), (2, 0, 0, 0, 6), (17, 6, 5, 30, 7), (16, 5, 1, 153, 10), (45, 20, 16, 0, 13)]),
  (16, [(5, 1, 0, 0, 16), (54, 21, 0, 0, 17)]),
  (20, [(5, 0, 0, 0, 20), (55, 21, 0, 0, 21)]),
  (21, [(64, 89, 2, 250, 21), (69, 0, 0, 0, 24)])]
/-- CCLaw.job -/
def zb_115 : List (Nat × List zO) := [
  (0, [(2, 3, 0, 0, 0), (5, 0, 0, 0, 1), (2, 0, 0, 0, 2), (0, 1, 0, 0, 3), (0, 2, 0, 0, 4), (64, 116, 3, 45, 5), (57, 0, 0, 0, 8), (38, 0, 0, 0, 9), (54, 21, 0, 0, 10)]),
  (15, [(5, 1, 0, 0, 15), (70, 0, 0, 0, 16)]),
  (19, [(5, 2, 0, 0, 19), (70, 0, 0, 0, 20)]),
  (21, [(5, 0, 0, 0, 21), (70, 0, 0, 0, 22)])]
/-- CC.job -/
def zb_116 : List (Nat × List zO) := [
  (0, [(2, 0, 0, 0, 0), (0, 1, 0, 0, 1), (64, 114, 2, 226, 2), (2, 0, 0, 0, 5), (0, 2, 0, 0, 6), (50, 19, 10, 0, 7)]),
  (10, [(0, 2, 0, 0, 10), (5, 3, 0, 0, 11), (46, 19, 15, 0, 12)]),
  (15, [(5, 1, 0, 0, 15), (54, 20, 0, 0, 16)]),
  (19, [(5, 0, 0, 0, 19), (55, 20, 0, 0, 20)]),
  (20, [(64, 61, 2, 65, 20), (0, 2, 0, 0, 23), (56, 4, 0, 28, 24)]),
  (52, [(2, 0, 0, 0, 52), (17, 6, 5, 30, 53), (0, 1, 0, 0, 56), (63, 105, 2, 235, 57), (70, 0, 0, 0, 60)]),
  (61, [(2, 0, 0, 0, 61), (17, 6, 5, 30, 62), (0, 1, 0, 0, 65), (63, 106, 2, 238, 66), (70, 0, 0, 0, 69)]),
  (70, [(2, 0, 0, 0, 70), (17, 6, 5, 30, 71), (0, 1, 0, 0, 74), (63, 117, 2, 241, 75), (70, 0, 0, 0, 78)]),
  (79, [(2, 0, 0, 0, 79), (17, 6, 5, 30, 80), (0, 1, 0, 0, 83), (63, 109, 2, 244, 84), (70, 0, 0, 0, 87)])]
/-- CC$Survey.leastLedger -/
def zb_117 : List (Nat × List zO) := [
  (0, [(8, 2147483647, 0, 68, 0), (10, 2, 0, 0, 2), (5, 0, 0, 0, 3), (10, 3, 0, 0, 4), (55, 5, 0, 0, 5)]),
  (5, [(0, 3, 0, 0, 5), (2, 0, 0, 0, 6), (16, 5, 0, 9, 7), (45, 35, 13, 0, 10)]),
  (13, [(0, 2, 0, 0, 13), (2, 0, 0, 0, 14), (17, 5, 5, 15, 15), (0, 3, 0, 0, 18), (34, 0, 0, 0, 19), (17, 2, 12, 57, 20), (0, 1, 0, 0, 23), (32, 0, 0, 0, 24), (63, 63, 2, 69, 25), (10, 2, 0, 0, 28), (15, 3, 1, 0, 29), (54, 5, 0, 0, 32)]),
  (35, [(0, 2, 0, 0, 35), (70, 0, 0, 0, 36)])]
/-- CCLaw.link -/
def zb_118 : List (Nat × List zO) := [
  (0, [(2, 3, 0, 0, 0), (5, 0, 0, 0, 1), (2, 0, 0, 0, 2), (0, 1, 0, 0, 3), (0, 2, 0, 0, 4), (64, 119, 3, 48, 5), (48, 15, 11, 0, 8)]),
  (11, [(62, 1, 0, 0, 11), (54, 16, 0, 0, 12)]),
  (15, [(62, 0, 0, 0, 15), (55, 16, 0, 0, 16)]),
  (16, [(38, 0, 0, 0, 16), (54, 28, 0, 0, 17)]),
  (22, [(5, 1, 0, 0, 22), (70, 0, 0, 0, 23)]),
  (26, [(5, 2, 0, 0, 26), (70, 0, 0, 0, 27)]),
  (28, [(5, 0, 0, 0, 28), (70, 0, 0, 0, 29)])]
/-- CC.link -/
def zb_119 : List (Nat × List zO) := [
  (0, [(2, 0, 0, 0, 0), (0, 1, 0, 0, 1), (64, 88, 2, 105, 2), (2, 0, 0, 0, 5), (0, 2, 0, 0, 6), (64, 88, 2, 105, 7), (2, 0, 0, 0, 10), (0, 1, 0, 0, 11), (0, 2, 0, 0, 12), (42, 20, 16, 0, 13)]),
  (16, [(5, 1, 0, 0, 16), (54, 21, 0, 0, 17)]),
  (20, [(5, 0, 0, 0, 20), (55, 21, 0, 0, 21)]),
  (21, [(64, 61, 2, 65, 21), (2, 0, 0, 0, 24), (17, 6, 5, 30, 25), (17, 5, 4, 247, 28), (0, 1, 0, 0, 31), (32, 0, 0, 0, 32), (5, 1, 0, 0, 33), (0, 2, 0, 0, 34), (26, 0, 0, 0, 35), (23, 0, 0, 0, 36), (48, 44, 40, 0, 37)]),
  (40, [(5, 1, 0, 0, 40), (54, 45, 0, 0, 41)]),
  (44, [(5, 0, 0, 0, 44), (55, 45, 0, 0, 45)]),
  (45, [(72, 0, 0, 0, 45)])]
/-- CCLaw.letter -/
def zb_120 : List (Nat × List zO) := [
  (0, [(2, 3, 0, 0, 0), (5, 0, 0, 0, 1), (2, 0, 0, 0, 2), (0, 1, 0, 0, 3), (0, 2, 0, 0, 4), (64, 121, 3, 52, 5), (57, 0, 0, 0, 8), (38, 0, 0, 0, 9), (54, 21, 0, 0, 10)]),
  (15, [(5, 1, 0, 0, 15), (70, 0, 0, 0, 16)]),
  (19, [(5, 2, 0, 0, 19), (70, 0, 0, 0, 20)]),
  (21, [(5, 0, 0, 0, 21), (70, 0, 0, 0, 22)])]
/-- CC.letter -/
def zb_121 : List (Nat × List zO) := [
  (0, [(2, 0, 0, 0, 0), (0, 1, 0, 0, 1), (50, 23, 5, 0, 2)]),
  (5, [(0, 1, 0, 0, 5), (2, 0, 0, 0, 6), (17, 6, 5, 30, 7), (17, 5, 6, 123, 10), (16, 1, 1, 159, 13), (45, 23, 19, 0, 16)]),
  (19, [(5, 1, 0, 0, 19), (54, 24, 0, 0, 20)]),
  (23, [(5, 0, 0, 0, 23), (55, 24, 0, 0, 24)]),
  (24, [(64, 89, 2, 250, 24), (2, 0, 0, 0, 27), (0, 2, 0, 0, 28), (50, 42, 32, 0, 29)]),
  (32, [(0, 2, 0, 0, 32), (6, 6, 0, 0, 33), (46, 42, 38, 0, 35)]),
  (38, [(5, 1, 0, 0, 38), (54, 43, 0, 0, 39)]),
  (42, [(5, 0, 0, 0, 42), (55, 43, 0, 0, 43)]),
  (43, [(64, 61, 2, 65, 43), (2, 0, 0, 0, 46), (17, 6, 5, 30, 47), (17, 5, 6, 123, 50), (0, 1, 0, 0, 53), (5, 2, 0, 0, 54), (64, 35, 3, 253, 55), (10, 3, 0, 0, 58), (0, 2, 0, 0, 59), (56, 5, 0, 40, 60)]),
  (100, [(2, 0, 0, 0, 100), (17, 6, 5, 30, 101), (17, 5, 6, 123, 104), (0, 1, 0, 0, 107), (5, 0, 0, 0, 108), (64, 35, 3, 253, 109), (70, 0, 0, 0, 112)]),
  (113, [(2, 0, 0, 0, 113), (17, 6, 5, 30, 114), (17, 5, 6, 123, 117), (0, 1, 0, 0, 120), (5, 1, 0, 0, 121), (64, 35, 3, 253, 122), (70, 0, 0, 0, 125)]),
  (126, [(0, 3, 0, 0, 126), (70, 0, 0, 0, 127)]),
  (128, [(2, 0, 0, 0, 128), (17, 6, 5, 30, 129), (17, 5, 6, 123, 132), (0, 1, 0, 0, 135), (5, 3, 0, 0, 136), (64, 35, 3, 253, 137), (2, 0, 0, 0, 140), (17, 6, 5, 30, 141), (16, 5, 2, 156, 144), (21, 0, 0, 0, 147), (70, 0, 0, 0, 148)]),
  (149, [(2, 0, 0, 0, 149), (17, 6, 5, 30, 150), (17, 5, 6, 123, 153), (0, 1, 0, 0, 156), (5, 4, 0, 0, 157), (64, 35, 3, 253, 158), (70, 0, 0, 0, 161)]),
  (162, [(0, 3, 0, 0, 162), (5, 5, 0, 0, 163), (43, 182, 167, 0, 164)]),
  (167, [(2, 0, 0, 0, 167), (17, 6, 5, 30, 168), (17, 5, 6, 123, 171), (0, 1, 0, 0, 174), (5, 5, 0, 0, 175), (64, 35, 3, 253, 176), (54, 183, 0, 0, 179)]),
  (182, [(5, 4294967295, 0, 0, 182), (55, 183, 0, 0, 183)]),
  (183, [(70, 0, 0, 0, 183)]),
  (184, [(0, 3, 0, 0, 184), (6, 7, 0, 0, 185), (43, 205, 190, 0, 187)]),
  (190, [(2, 0, 0, 0, 190), (17, 6, 5, 30, 191), (17, 5, 6, 123, 194), (0, 1, 0, 0, 197), (5, 5, 0, 0, 198), (64, 35, 3, 253, 199), (54, 206, 0, 0, 202)]),
  (205, [(5, 4294967295, 0, 0, 205), (55, 206, 0, 0, 206)]),
  (206, [(70, 0, 0, 0, 206)])]
/-- CCLaw.sent -/
def zb_122 : List (Nat × List zO) := [
  (0, [(2, 3, 0, 0, 0), (5, 0, 0, 0, 1), (2, 0, 0, 0, 2), (0, 1, 0, 0, 3), (0, 2, 0, 0, 4), (64, 123, 3, 55, 5), (57, 0, 0, 0, 8), (38, 0, 0, 0, 9), (54, 17, 0, 0, 10)]),
  (15, [(5, 1, 0, 0, 15), (70, 0, 0, 0, 16)]),
  (17, [(5, 0, 0, 0, 17), (70, 0, 0, 0, 18)])]
/-- CC.sent -/
def zb_123 : List (Nat × List zO) := [
  (0, [(2, 0, 0, 0, 0), (0, 1, 0, 0, 1), (50, 24, 5, 0, 2)]),
  (5, [(0, 1, 0, 0, 5), (6, 8, 0, 0, 6), (45, 24, 11, 0, 8)]),
  (11, [(0, 2, 0, 0, 11), (48, 20, 15, 0, 12)]),
  (15, [(0, 2, 0, 0, 15), (5, 1, 0, 0, 16), (43, 24, 20, 0, 17)]),
  (20, [(5, 1, 0, 0, 20), (54, 25, 0, 0, 21)]),
  (24, [(5, 0, 0, 0, 24), (55, 25, 0, 0, 25)]),
  (25, [(64, 61, 2, 65, 25), (0, 2, 0, 0, 28), (49, 47, 32, 0, 29)]),
  (32, [(2, 0, 0, 0, 32), (17, 6, 5, 30, 33), (17, 5, 6, 123, 36), (17, 1, 4, 257, 39), (0, 1, 0, 0, 42), (32, 0, 0, 0, 43), (54, 59, 0, 0, 44)]),
  (47, [(2, 0, 0, 0, 47), (17, 6, 5, 30, 48), (17, 5, 6, 123, 51), (17, 1, 5, 260, 54), (0, 1, 0, 0, 57), (32, 0, 0, 0, 58), (55, 59, 0, 0, 59)]),
  (59, [(70, 0, 0, 0, 59)])]
/-- CCLaw.tally -/
def zb_124 : List (Nat × List zO) := [
  (0, [(2, 3, 0, 0, 0), (5, 0, 0, 0, 1), (2, 0, 0, 0, 2), (0, 1, 0, 0, 3), (0, 2, 0, 0, 4), (64, 125, 3, 58, 5), (57, 0, 0, 0, 8), (38, 0, 0, 0, 9), (54, 21, 0, 0, 10)]),
  (15, [(5, 1, 0, 0, 15), (70, 0, 0, 0, 16)]),
  (19, [(5, 2, 0, 0, 19), (70, 0, 0, 0, 20)]),
  (21, [(5, 0, 0, 0, 21), (70, 0, 0, 0, 22)])]
/-- CC.tally -/
def zb_125 : List (Nat × List zO) := [
  (0, [(2, 0, 0, 0, 0), (0, 1, 0, 0, 1), (64, 88, 2, 105, 2), (2, 0, 0, 0, 5), (0, 2, 0, 0, 6), (50, 20, 10, 0, 7)]),
  (10, [(0, 2, 0, 0, 10), (6, 7, 0, 0, 11), (45, 20, 16, 0, 13)]),
  (16, [(5, 1, 0, 0, 16), (54, 21, 0, 0, 17)]),
  (20, [(5, 0, 0, 0, 20), (55, 21, 0, 0, 21)]),
  (21, [(64, 61, 2, 65, 21), (2, 0, 0, 0, 24), (17, 6, 5, 30, 25), (17, 5, 5, 108, 28), (0, 1, 0, 0, 31), (34, 0, 0, 0, 32), (17, 2, 14, 263, 33), (0, 2, 0, 0, 36), (32, 0, 0, 0, 37), (70, 0, 0, 0, 38)])]
/-- CCLaw.change -/
def zb_126 : List (Nat × List zO) := [
  (0, [(2, 3, 0, 0, 0), (5, 0, 0, 0, 1), (2, 0, 0, 0, 2), (0, 1, 0, 0, 3), (0, 2, 0, 0, 4), (64, 127, 3, 61, 5), (57, 0, 0, 0, 8), (38, 0, 0, 0, 9), (54, 21, 0, 0, 10)]),
  (15, [(5, 1, 0, 0, 15), (70, 0, 0, 0, 16)]),
  (19, [(5, 2, 0, 0, 19), (70, 0, 0, 0, 20)]),
  (21, [(5, 0, 0, 0, 21), (70, 0, 0, 0, 22)])]
/-- CC.change -/
def zb_127 : List (Nat × List zO) := [
  (0, [(2, 0, 0, 0, 0), (0, 1, 0, 0, 1), (50, 20, 5, 0, 2)]),
  (5, [(0, 1, 0, 0, 5), (2, 0, 0, 0, 6), (17, 6, 5, 30, 7), (64, 107, 1, 184, 10), (45, 20, 16, 0, 13)]),
  (16, [(5, 1, 0, 0, 16), (54, 21, 0, 0, 17)]),
  (20, [(5, 0, 0, 0, 20), (55, 21, 0, 0, 21)]),
  (21, [(64, 89, 2, 250, 21), (2, 0, 0, 0, 24), (0, 2, 0, 0, 25), (50, 38, 29, 0, 26)]),
  (29, [(0, 2, 0, 0, 29), (5, 4, 0, 0, 30), (45, 38, 34, 0, 31)]),
  (34, [(5, 1, 0, 0, 34), (54, 39, 0, 0, 35)]),
  (38, [(5, 0, 0, 0, 38), (55, 39, 0, 0, 39)]),
  (39, [(64, 61, 2, 65, 39), (2, 0, 0, 0, 42), (17, 6, 5, 30, 43), (0, 1, 0, 0, 46), (0, 2, 0, 0, 47), (64, 128, 3, 266, 48), (70, 0, 0, 0, 51)])]
/-- CC$World.changeField -/
def zb_128 : List (Nat × List zO) := [
  (0, [(2, 0, 0, 0, 0), (16, 5, 8, 79, 1), (2, 0, 0, 0, 4), (64, 107, 1, 238, 5), (21, 0, 0, 0, 8), (0, 1, 0, 0, 9), (20, 0, 0, 0, 10), (6, 40, 0, 0, 11), (30, 0, 0, 0, 13), (10, 3, 0, 0, 14), (2, 0, 0, 0, 15), (17, 5, 7, 31, 16), (0, 3, 0, 0, 19), (5, 4, 0, 0, 20), (22, 0, 0, 0, 21), (0, 2, 0, 0, 22), (20, 0, 0, 0, 23), (32, 0, 0, 0, 24), (70, 0, 0, 0, 25)])]
/-- CCLaw.ranked -/
def zb_129 : List (Nat × List zO) := [
  (0, [(2, 3, 0, 0, 0), (5, 0, 0, 0, 1), (2, 0, 0, 0, 2), (0, 1, 0, 0, 3), (0, 2, 0, 0, 4), (64, 130, 3, 64, 5), (57, 0, 0, 0, 8), (38, 0, 0, 0, 9), (54, 17, 0, 0, 10)]),
  (15, [(5, 1, 0, 0, 15), (70, 0, 0, 0, 16)]),
  (17, [(5, 0, 0, 0, 17), (70, 0, 0, 0, 18)])]
/-- CC.ranked -/
def zb_130 : List (Nat × List zO) := [
  (0, [(2, 0, 0, 0, 0), (0, 1, 0, 0, 1), (64, 88, 2, 105, 2), (2, 0, 0, 0, 5), (17, 6, 5, 30, 6), (2, 0, 0, 0, 9), (17, 6, 5, 30, 10), (0, 1, 0, 0, 13), (63, 54, 2, 220, 14), (0, 2, 0, 0, 17), (63, 131, 3, 272, 18), (70, 0, 0, 0, 21)])]
/-- CC$Survey.atPlace -/
def zb_131 : List (Nat × List zO) := [
  (0, [(5, 0, 0, 0, 0), (10, 3, 0, 0, 1), (55, 2, 0, 0, 2)]),
  (2, [(0, 3, 0, 0, 2), (2, 0, 0, 0, 3), (16, 5, 0, 9, 4), (45, 44, 10, 0, 7)]),
  (10, [(0, 1, 0, 0, 10), (5, 1, 0, 0, 11), (0, 3, 0, 0, 12), (26, 0, 0, 0, 13), (23, 0, 0, 0, 14), (48, 38, 18, 0, 15)]),
  (18, [(0, 1, 0, 0, 18), (2, 0, 0, 0, 19), (17, 5, 5, 15, 20), (0, 3, 0, 0, 23), (34, 0, 0, 0, 24), (16, 2, 2, 96, 25), (23, 0, 0, 0, 28), (63, 13, 1, 88, 29), (0, 2, 0, 0, 32), (43, 38, 36, 0, 33)]),
  (36, [(0, 3, 0, 0, 36), (70, 0, 0, 0, 37)]),
  (38, [(15, 3, 1, 0, 38), (54, 2, 0, 0, 41)]),
  (44, [(5, 4294967295, 0, 0, 44), (70, 0, 0, 0, 45)])]
/-- CCLaw.untilBy -/
def zb_132 : List (Nat × List zO) := [
  (0, [(2, 2, 0, 0, 0), (5, 0, 0, 0, 1), (2, 0, 0, 0, 2), (0, 1, 0, 0, 3), (64, 133, 2, 67, 4), (57, 0, 0, 0, 7), (38, 0, 0, 0, 8), (54, 15, 0, 0, 9)]),
  (13, [(5, 1, 0, 0, 13), (70, 0, 0, 0, 14)]),
  (15, [(5, 0, 0, 0, 15), (70, 0, 0, 0, 16)])]
/-- CC.untilBy -/
def zb_133 : List (Nat × List zO) := [
  (0, [(2, 0, 0, 0, 0), (0, 1, 0, 0, 1), (64, 88, 2, 105, 2), (2, 0, 0, 0, 5), (17, 6, 6, 34, 6), (2, 0, 0, 0, 9), (17, 6, 5, 30, 10), (64, 25, 2, 149, 13), (2, 0, 0, 0, 16), (17, 6, 6, 34, 17), (0, 1, 0, 0, 20), (64, 134, 2, 278, 21), (2, 0, 0, 0, 24), (17, 6, 6, 34, 25), (63, 33, 1, 275, 28), (70, 0, 0, 0, 31)])]
/-- CC$World.turn -/
def zb_134 : List (Nat × List zO) := [
  (0, [(2, 0, 0, 0, 0), (17, 5, 5, 20, 1), (0, 1, 0, 0, 4), (34, 0, 0, 0, 5), (16, 2, 3, 97, 6), (5, 2, 0, 0, 9), (43, 26, 13, 0, 10)]),
  (13, [(2, 0, 0, 0, 13), (2, 0, 0, 0, 14), (17, 5, 5, 20, 15), (0, 1, 0, 0, 18), (34, 0, 0, 0, 19), (64, 15, 2, 75, 20), (54, 31, 0, 0, 23)]),
  (26, [(2, 0, 0, 0, 26), (0, 1, 0, 0, 27), (64, 91, 2, 103, 28), (55, 31, 0, 0, 31)]),
  (31, [(69, 0, 0, 0, 31)])]
/-- CCLaw.hardest -/
def zb_135 : List (Nat × List zO) := [
  (0, [(2, 2, 0, 0, 0), (5, 0, 0, 0, 1), (2, 0, 0, 0, 2), (0, 1, 0, 0, 3), (64, 136, 2, 70, 4), (57, 0, 0, 0, 7), (38, 0, 0, 0, 8), (54, 15, 0, 0, 9)]),
  (13, [(5, 1, 0, 0, 13), (70, 0, 0, 0, 14)]),
  (15, [(5, 0, 0, 0, 15), (70, 0, 0, 0, 16)])]
/-- CC.hardest -/
def zb_136 : List (Nat × List zO) := [
  (0, [(2, 0, 0, 0, 0), (0, 1, 0, 0, 1), (48, 10, 5, 0, 2)]),
  (5, [(0, 1, 0, 0, 5), (5, 1, 0, 0, 6), (43, 14, 10, 0, 7)]),
  (10, [(5, 1, 0, 0, 10), (54, 15, 0, 0, 11)]),
  (14, [(5, 0, 0, 0, 14), (55, 15, 0, 0, 15)]),
  (15, [(64, 61, 2, 65, 15), (5, 4294967295, 0, 0, 18), (10, 2, 0, 0, 19), (5, 4294967295, 0, 0, 20), (10, 3, 0, 0, 21), (5, 0, 0, 0, 22), (11, 4, 0, 0, 23), (55, 25, 0, 0, 25)]),
  (25, [(1, 4, 0, 0, 25), (2, 0, 0, 0, 27), (17, 6, 5, 30, 28), (16, 5, 0, 84, 31), (45, 109, 37, 0, 34)]),
  (37, [(2, 0, 0, 0, 37), (17, 6, 5, 30, 38), (17, 5, 5, 108, 41), (1, 4, 0, 0, 44), (34, 0, 0, 0, 46), (16, 2, 3, 112, 47), (5, 2, 0, 0, 50), (42, 103, 54, 0, 51)]),
  (54, [(2, 0, 0, 0, 54), (17, 6, 6, 34, 55), (2, 0, 0, 0, 58), (17, 6, 5, 30, 59), (64, 25, 2, 149, 62), (2, 0, 0, 0, 65), (17, 6, 6, 34, 66), (1, 4, 0, 0, 69), (64, 91, 2, 120, 71), (2, 0, 0, 0, 74), (17, 6, 6, 34, 75), (63, 33, 1, 275, 78), (11, 5, 0, 0, 81), (0, 2, 0, 0, 83), (5, 4294967295, 0, 0, 84), (42, 97, 88, 0, 85)]),
  (88, [(1, 5, 0, 0, 88), (0, 3, 0, 0, 90), (63, 137, 2, 281, 91), (48, 103, 97, 0, 94)]),
  (97, [(1, 4, 0, 0, 97), (10, 2, 0, 0, 99), (1, 5, 0, 0, 100), (10, 3, 0, 0, 102), (55, 103, 0, 0, 103)]),
  (103, [(15, 4, 1, 0, 103), (54, 25, 0, 0, 106)]),
  (109, [(0, 1, 0, 0, 109), (49, 117, 113, 0, 110)]),
  (113, [(0, 2, 0, 0, 113), (54, 118, 0, 0, 114)]),
  (117, [(0, 3, 0, 0, 117), (55, 118, 0, 0, 118)]),
  (118, [(70, 0, 0, 0, 118)])]
/-- CC.isLonger -/
def zb_137 : List (Nat × List zO) := [
  (0, [(0, 1, 0, 0, 0), (5, 4294967295, 0, 0, 1), (42, 19, 5, 0, 2)]),
  (5, [(0, 0, 0, 0, 5), (5, 4294967295, 0, 0, 6), (42, 15, 10, 0, 7)]),
  (10, [(0, 0, 0, 0, 10), (0, 1, 0, 0, 11), (47, 19, 15, 0, 12)]),
  (15, [(5, 1, 0, 0, 15), (54, 20, 0, 0, 16)]),
  (19, [(5, 0, 0, 0, 19), (55, 20, 0, 0, 20)]),
  (20, [(72, 0, 0, 0, 20)])]
/-- CCLaw.untilRule -/
def zb_138 : List (Nat × List zO) := [
  (0, [(2, 3, 0, 0, 0), (5, 0, 0, 0, 1), (2, 0, 0, 0, 2), (0, 1, 0, 0, 3), (0, 2, 0, 0, 4), (64, 139, 3, 73, 5), (57, 0, 0, 0, 8), (38, 0, 0, 0, 9), (54, 17, 0, 0, 10)]),
  (15, [(5, 1, 0, 0, 15), (70, 0, 0, 0, 16)]),
  (17, [(5, 0, 0, 0, 17), (70, 0, 0, 0, 18)])]
/-- CC.untilRule -/
def zb_139 : List (Nat × List zO) := [
  (0, [(2, 0, 0, 0, 0), (0, 1, 0, 0, 1), (0, 2, 0, 0, 2), (63, 97, 2, 139, 3), (64, 61, 2, 65, 6), (2, 0, 0, 0, 9), (17, 6, 6, 34, 10), (2, 0, 0, 0, 13), (17, 6, 5, 30, 14), (64, 25, 2, 149, 17), (2, 0, 0, 0, 20), (17, 6, 6, 34, 21), (17, 5, 3, 143, 24), (0, 1, 0, 0, 27), (0, 2, 0, 0, 28), (33, 0, 0, 0, 29), (2, 0, 0, 0, 30), (17, 6, 6, 34, 31), (63, 33, 1, 275, 34), (70, 0, 0, 0, 37)])]
/-- CCLaw.untilLinks -/
def zb_140 : List (Nat × List zO) := [
  (0, [(2, 3, 0, 0, 0), (5, 0, 0, 0, 1), (2, 0, 0, 0, 2), (0, 1, 0, 0, 3), (0, 2, 0, 0, 4), (64, 141, 3, 76, 5), (57, 0, 0, 0, 8), (38, 0, 0, 0, 9), (54, 17, 0, 0, 10)]),
  (15, [(5, 1, 0, 0, 15), (70, 0, 0, 0, 16)]),
  (17, [(5, 0, 0, 0, 17), (70, 0, 0, 0, 18)])]
/-- CC.untilLinks -/
def zb_141 : List (Nat × List zO) := [
  (0, [(2, 0, 0, 0, 0), (0, 1, 0, 0, 1), (48, 21, 5, 0, 2)]),
  (5, [(0, 1, 0, 0, 5), (5, 1, 0, 0, 6), (43, 25, 10, 0, 7)]),
  (10, [(2, 0, 0, 0, 10), (17, 6, 5, 30, 11), (0, 2, 0, 0, 14), (64, 84, 2, 94, 15), (48, 25, 21, 0, 18)]),
  (21, [(5, 1, 0, 0, 21), (54, 26, 0, 0, 22)]),
  (25, [(5, 0, 0, 0, 25), (55, 26, 0, 0, 26)]),
  (26, [(64, 61, 2, 65, 26), (2, 0, 0, 0, 29), (17, 6, 6, 34, 30), (2, 0, 0, 0, 33), (17, 6, 5, 30, 34), (64, 25, 2, 149, 37), (0, 1, 0, 0, 40), (49, 55, 44, 0, 41)]),
  (44, [(2, 0, 0, 0, 44), (17, 6, 6, 34, 45), (64, 11, 1, 101, 48), (41, 0, 0, 0, 51), (54, 64, 0, 0, 52)]),
  (55, [(2, 0, 0, 0, 55), (17, 6, 6, 34, 56), (0, 2, 0, 0, 59), (64, 85, 2, 98, 60), (41, 0, 0, 0, 63), (55, 64, 0, 0, 64)]),
  (64, [(2, 0, 0, 0, 64), (17, 6, 6, 34, 65), (63, 33, 1, 275, 68), (70, 0, 0, 0, 71)])]
/-- CCLaw.ahead -/
def zb_142 : List (Nat × List zO) := [
  (0, [(2, 3, 0, 0, 0), (5, 0, 0, 0, 1), (2, 0, 0, 0, 2), (0, 1, 0, 0, 3), (0, 2, 0, 0, 4), (64, 143, 3, 79, 5), (57, 0, 0, 0, 8), (38, 0, 0, 0, 9), (54, 17, 0, 0, 10)]),
  (15, [(5, 1, 0, 0, 15), (70, 0, 0, 0, 16)]),
  (17, [(5, 0, 0, 0, 17), (70, 0, 0, 0, 18)])]
/-- CC.ahead -/
def zb_143 : List (Nat × List zO) := [
  (0, [(2, 0, 0, 0, 0), (0, 1, 0, 0, 1), (5, 1, 0, 0, 2), (44, 25, 6, 0, 3)]),
  (6, [(0, 1, 0, 0, 6), (6, 100, 0, 0, 7), (46, 25, 12, 0, 9)]),
  (12, [(0, 2, 0, 0, 12), (50, 25, 16, 0, 13)]),
  (16, [(0, 2, 0, 0, 16), (5, 4, 0, 0, 17), (46, 25, 21, 0, 18)]),
  (21, [(5, 1, 0, 0, 21), (54, 26, 0, 0, 22)]),
  (25, [(5, 0, 0, 0, 25), (55, 26, 0, 0, 26)]),
  (26, [(64, 61, 2, 65, 26), (2, 0, 0, 0, 29), (17, 6, 6, 34, 30), (2, 0, 0, 0, 33), (17, 6, 5, 30, 34), (64, 25, 2, 149, 37), (2, 0, 0, 0, 40), (17, 6, 6, 34, 41), (0, 1, 0, 0, 44), (64, 78, 2, 90, 45), (10, 3, 0, 0, 48), (0, 2, 0, 0, 49), (56, 6, 0, 30, 50)]),
  (80, [(2, 0, 0, 0, 80), (17, 6, 6, 34, 81), (63, 100, 1, 165, 84), (70, 0, 0, 0, 87)]),
  (88, [(2, 0, 0, 0, 88), (17, 6, 6, 34, 89), (63, 104, 1, 181, 92), (70, 0, 0, 0, 95)]),
  (96, [(2, 0, 0, 0, 96), (17, 6, 6, 34, 97), (17, 5, 6, 123, 100), (16, 1, 3, 162, 103), (70, 0, 0, 0, 106)]),
  (107, [(0, 3, 0, 0, 107), (70, 0, 0, 0, 108)]),
  (109, [(2, 0, 0, 0, 109), (17, 6, 6, 34, 110), (63, 144, 1, 284, 113), (70, 0, 0, 0, 116)])]
/-- CC$Survey.chiefOfMost -/
def zb_144 : List (Nat × List zO) := [
  (0, [(5, 4294967295, 0, 0, 0), (10, 1, 0, 0, 1), (5, 0, 0, 0, 2), (10, 2, 0, 0, 3), (5, 0, 0, 0, 4), (10, 3, 0, 0, 5), (55, 6, 0, 0, 6)]),
  (6, [(0, 3, 0, 0, 6), (2, 0, 0, 0, 7), (16, 5, 0, 9, 8), (45, 82, 14, 0, 11)]),
  (14, [(5, 0, 0, 0, 14), (11, 4, 0, 0, 15), (5, 0, 0, 0, 17), (11, 5, 0, 0, 18), (55, 20, 0, 0, 20)]),
  (20, [(1, 5, 0, 0, 20), (2, 0, 0, 0, 22), (16, 5, 0, 9, 23), (45, 65, 29, 0, 26)]),
  (29, [(2, 0, 0, 0, 29), (17, 5, 5, 15, 30), (1, 5, 0, 0, 33), (34, 0, 0, 0, 35), (16, 2, 3, 19, 36), (49, 59, 42, 0, 39)]),
  (42, [(2, 0, 0, 0, 42), (17, 5, 5, 15, 43), (1, 5, 0, 0, 46), (34, 0, 0, 0, 48), (16, 2, 4, 51, 49), (0, 3, 0, 0, 52), (43, 59, 56, 0, 53)]),
  (56, [(15, 4, 1, 0, 56), (55, 59, 0, 0, 59)]),
  (59, [(15, 5, 1, 0, 59), (54, 20, 0, 0, 62)]),
  (65, [(1, 4, 0, 0, 65), (0, 2, 0, 0, 67), (47, 76, 71, 0, 68)]),
  (71, [(1, 4, 0, 0, 71), (10, 2, 0, 0, 73), (0, 3, 0, 0, 74), (10, 1, 0, 0, 75), (55, 76, 0, 0, 76)]),
  (76, [(15, 3, 1, 0, 76), (54, 6, 0, 0, 79)]),
  (82, [(0, 1, 0, 0, 82), (70, 0, 0, 0, 83)])]
/-- CCLaw.storms -/
def zb_145 : List (Nat × List zO) := [
  (0, [(3, 4, 0, 0, 0), (5, 0, 0, 0, 2), (2, 0, 0, 0, 3), (0, 1, 0, 0, 4), (0, 2, 0, 0, 5), (0, 3, 0, 0, 6), (64, 146, 4, 82, 7), (57, 0, 0, 0, 10), (38, 0, 0, 0, 11), (54, 19, 0, 0, 12)]),
  (17, [(5, 1, 0, 0, 17), (70, 0, 0, 0, 18)]),
  (19, [(5, 0, 0, 0, 19), (70, 0, 0, 0, 20)])]
/-- CC.storms -/
def zb_146 : List (Nat × List zO) := [
  (0, [(2, 0, 0, 0, 0), (0, 1, 0, 0, 1), (5, 1, 0, 0, 2), (44, 25, 6, 0, 3)]),
  (6, [(0, 1, 0, 0, 6), (6, 20, 0, 0, 7), (46, 25, 12, 0, 9)]),
  (12, [(0, 3, 0, 0, 12), (50, 25, 16, 0, 13)]),
  (16, [(0, 3, 0, 0, 16), (5, 2, 0, 0, 17), (46, 25, 21, 0, 18)]),
  (21, [(5, 1, 0, 0, 21), (54, 26, 0, 0, 22)]),
  (25, [(5, 0, 0, 0, 25), (55, 26, 0, 0, 26)]),
  (26, [(64, 61, 2, 65, 26), (5, 0, 0, 0, 29), (11, 4, 0, 0, 30), (5, 0, 0, 0, 32), (11, 5, 0, 0, 33), (5, 0, 0, 0, 35), (11, 6, 0, 0, 36), (5, 0, 0, 0, 38), (11, 7, 0, 0, 39), (55, 41, 0, 0, 41)]),
  (41, [(1, 7, 0, 0, 41), (0, 1, 0, 0, 43), (45, 120, 47, 0, 44)]),
  (47, [(2, 0, 0, 0, 47), (17, 6, 10, 44, 48), (0, 2, 0, 0, 51), (1, 7, 0, 0, 52), (20, 0, 0, 0, 54), (18, 0, 0, 287, 55), (2, 0, 0, 0, 58), (17, 6, 6, 34, 59), (2, 0, 0, 0, 62), (17, 6, 5, 30, 63), (64, 25, 2, 149, 66), (2, 0, 0, 0, 69), (17, 6, 6, 34, 70), (2, 0, 0, 0, 73), (17, 6, 10, 44, 74), (63, 147, 2, 290, 77), (2, 0, 0, 0, 80), (17, 6, 6, 34, 81), (63, 33, 1, 275, 84), (11, 8, 0, 0, 87), (1, 8, 0, 0, 89), (5, 4294967295, 0, 0, 91), (42, 114, 95, 0, 92)]),
  (95, [(15, 4, 1, 0, 95), (1, 5, 0, 0, 98), (1, 8, 0, 0, 100), (63, 46, 2, 294, 102), (11, 5, 0, 0, 105), (1, 6, 0, 0, 107), (1, 8, 0, 0, 109), (20, 0, 0, 0, 111), (11, 6, 0, 0, 112), (55, 114, 0, 0, 114)]),
  (114, [(15, 7, 1, 0, 114), (54, 41, 0, 0, 117)]),
  (120, [(0, 3, 0, 0, 120), (49, 129, 124, 0, 121)]),
  (124, [(1, 4, 0, 0, 124), (54, 141, 0, 0, 126)]),
  (129, [(0, 3, 0, 0, 129), (5, 1, 0, 0, 130), (43, 139, 134, 0, 131)]),
  (134, [(1, 5, 0, 0, 134), (54, 141, 0, 0, 136)]),
  (139, [(1, 6, 0, 0, 139), (55, 141, 0, 0, 141)]),
  (141, [(70, 0, 0, 0, 141)])]
/-- CC.storm -/
def zb_147 : List (Nat × List zO) := [
  (0, [(5, 0, 0, 0, 0), (10, 2, 0, 0, 1), (55, 2, 0, 0, 2)]),
  (2, [(0, 2, 0, 0, 2), (6, 8, 0, 0, 3), (45, 93, 8, 0, 5)]),
  (8, [(2, 1, 0, 0, 8), (5, 4, 0, 0, 9), (64, 148, 2, 299, 10), (10, 3, 0, 0, 13), (0, 3, 0, 0, 14), (49, 33, 18, 0, 15)]),
  (18, [(2, 0, 0, 0, 18), (2, 1, 0, 0, 19), (2, 0, 0, 0, 20), (16, 5, 0, 84, 21), (64, 148, 2, 299, 24), (64, 134, 2, 278, 27), (54, 61, 0, 0, 30)]),
  (33, [(0, 3, 0, 0, 33), (5, 1, 0, 0, 34), (43, 56, 38, 0, 35)]),
  (38, [(2, 0, 0, 0, 38), (2, 1, 0, 0, 39), (5, 1, 0, 0, 40), (2, 0, 0, 0, 41), (16, 5, 0, 84, 42), (26, 0, 0, 0, 45), (64, 148, 2, 299, 46), (64, 85, 2, 98, 49), (41, 0, 0, 0, 52), (54, 61, 0, 0, 53)]),
  (56, [(2, 0, 0, 0, 56), (64, 11, 1, 101, 57), (41, 0, 0, 0, 60), (55, 61, 0, 0, 61)]),
  (61, [(2, 1, 0, 0, 61), (6, 12, 0, 0, 62), (64, 148, 2, 299, 64), (5, 1, 0, 0, 67), (20, 0, 0, 0, 68), (11, 4, 0, 0, 69), (55, 71, 0, 0, 71)]),
  (71, [(1, 4, 0, 0, 71), (53, 87, 76, 0, 73)]),
  (76, [(2, 0, 0, 0, 76), (64, 34, 1, 302, 77), (41, 0, 0, 0, 80), (15, 4, 4294967295, 0, 81), (54, 71, 0, 0, 84)]),
  (87, [(15, 2, 1, 0, 87), (54, 2, 0, 0, 90)]),
  (93, [(2, 0, 0, 0, 93), (64, 11, 1, 101, 94), (41, 0, 0, 0, 97), (5, 0, 0, 0, 98), (10, 2, 0, 0, 99), (55, 100, 0, 0, 100)]),
  (100, [(0, 2, 0, 0, 100), (2, 0, 0, 0, 101), (16, 5, 0, 84, 102), (45, 137, 108, 0, 105)]),
  (108, [(2, 0, 0, 0, 108), (17, 5, 5, 108, 109), (0, 2, 0, 0, 112), (34, 0, 0, 0, 113), (16, 2, 3, 112, 114), (5, 2, 0, 0, 117), (43, 131, 121, 0, 118)]),
  (121, [(2, 0, 0, 0, 121), (2, 0, 0, 0, 122), (17, 5, 5, 108, 123), (0, 2, 0, 0, 126), (34, 0, 0, 0, 127), (64, 15, 2, 132, 128), (55, 131, 0, 0, 131)]),
  (131, [(15, 2, 1, 0, 131), (54, 100, 0, 0, 134)]),
  (137, [(69, 0, 0, 0, 137)])]
/-- CC$Draws.next -/
def zb_148 : List (Nat × List zO) := [
  (0, [(2, 0, 0, 0, 0), (8, 1103515245, 0, 7, 1), (2, 0, 0, 0, 3), (16, 0, 0, 8, 4), (22, 0, 0, 0, 7), (7, 12345, 0, 0, 8), (20, 0, 0, 0, 11), (18, 0, 0, 8, 12), (0, 1, 0, 0, 15), (53, 31, 19, 0, 16)]),
  (19, [(2, 0, 0, 0, 19), (16, 0, 0, 8, 20), (6, 16, 0, 0, 23), (28, 0, 0, 0, 25), (0, 1, 0, 0, 26), (30, 0, 0, 0, 27), (54, 32, 0, 0, 28)]),
  (31, [(5, 0, 0, 0, 31), (55, 32, 0, 0, 32)]),
  (32, [(70, 0, 0, 0, 32)])]
/-- CCModel.<init> -/
def zb_149 : List (Nat × List zO) := [
  (0, [(2, 0, 0, 0, 0), (68, 0, 0, 3, 1), (2, 0, 0, 0, 4), (5, 3, 0, 0, 5), (74, 0, 0, 0, 6), (19, 7, 1, 9, 8), (2, 0, 0, 0, 11), (5, 4294967295, 0, 0, 12), (18, 7, 5, 13, 13), (2, 0, 0, 0, 16), (7, 200, 0, 0, 17), (74, 0, 0, 0, 20), (19, 7, 8, 17, 22), (2, 0, 0, 0, 25), (7, 4326, 0, 0, 26), (74, 0, 0, 0, 29), (19, 7, 9, 20, 31), (2, 0, 0, 0, 34), (7, 4326, 0, 0, 35), (74, 0, 0, 0, 38), (19, 7, 10, 23, 40), (2, 0, 0, 0, 43), (7, 4326, 0, 0, 44), (74, 0, 0, 0, 47), (19, 7, 11, 26, 49), (2, 0, 0, 0, 52), (7, 4326, 0, 0, 53), (74, 0, 0, 0, 56), (19, 7, 12, 29, 58), (2, 0, 0, 0, 61), (6, 8, 0, 0, 62), (7, 4326, 0, 0, 64), (77, 0, 0, 32, 67), (19, 7, 13, 34, 71), (2, 0, 0, 0, 74), (6, 13, 0, 0, 75), (74, 0, 0, 0, 77), (19, 7, 17, 37, 79), (2, 0, 0, 0, 82), (5, 2, 0, 0, 83), (64, 150, 2, 40, 84), (2, 0, 0, 0, 87), (2, 0, 0, 0, 88), (17, 7, 10, 23, 89), (64, 151, 2, 44, 92), (69, 0, 0, 0, 95)])]
/-- CCModel.freshDraft -/
def zb_150 : List (Nat × List zO) := [
  (0, [(5, 0, 0, 0, 0), (10, 2, 0, 0, 1), (55, 2, 0, 0, 2)]),
  (2, [(0, 2, 0, 0, 2), (7, 4326, 0, 0, 3), (45, 22, 9, 0, 6)]),
  (9, [(2, 0, 0, 0, 9), (17, 7, 10, 23, 10), (0, 2, 0, 0, 13), (5, 0, 0, 0, 14), (33, 0, 0, 0, 15), (15, 2, 1, 0, 16), (54, 2, 0, 0, 19)]),
  (22, [(2, 0, 0, 0, 22), (17, 7, 10, 23, 23), (5, 0, 0, 0, 26), (0, 1, 0, 0, 27), (33, 0, 0, 0, 28), (2, 0, 0, 0, 29), (17, 7, 10, 23, 30), (5, 1, 0, 0, 33), (5, 3, 0, 0, 34), (33, 0, 0, 0, 35), (2, 0, 0, 0, 36), (17, 7, 10, 23, 37), (5, 2, 0, 0, 40), (6, 8, 0, 0, 41), (33, 0, 0, 0, 43), (2, 0, 0, 0, 44), (17, 7, 10, 23, 45), (5, 3, 0, 0, 48), (5, 4, 0, 0, 49), (33, 0, 0, 0, 50), (2, 0, 0, 0, 51), (17, 7, 10, 23, 52), (5, 4, 0, 0, 55), (5, 3, 0, 0, 56), (33, 0, 0, 0, 57), (2, 0, 0, 0, 58), (17, 7, 10, 23, 59), (5, 5, 0, 0, 62), (5, 1, 0, 0, 63), (33, 0, 0, 0, 64), (5, 0, 0, 0, 65), (10, 2, 0, 0, 66), (55, 67, 0, 0, 67)]),
  (67, [(0, 2, 0, 0, 67), (0, 1, 0, 0, 68), (45, 90, 72, 0, 69)]),
  (72, [(2, 0, 0, 0, 72), (17, 7, 10, 23, 73), (6, 33, 0, 0, 76), (0, 2, 0, 0, 78), (20, 0, 0, 0, 79), (0, 1, 0, 0, 80), (0, 2, 0, 0, 81), (21, 0, 0, 0, 82), (33, 0, 0, 0, 83), (15, 2, 1, 0, 84), (54, 67, 0, 0, 87)]),
  (90, [(69, 0, 0, 0, 90)])]
/-- CCModel.begins -/
def zb_151 : List (Nat × List zO) := [
  (0, [(2, 1, 0, 0, 0), (2, 0, 0, 0, 1), (17, 7, 9, 20, 2), (63, 152, 2, 160, 5), (5, 0, 0, 0, 8), (10, 2, 0, 0, 9), (55, 10, 0, 0, 10)]),
  (10, [(0, 2, 0, 0, 10), (2, 0, 0, 0, 11), (17, 7, 9, 20, 12), (5, 0, 0, 0, 15), (32, 0, 0, 0, 16), (45, 31, 20, 0, 17)]),
  (20, [(2, 0, 0, 0, 20), (0, 2, 0, 0, 21), (64, 153, 2, 164, 22), (15, 2, 1, 0, 25), (54, 10, 0, 0, 28)]),
  (31, [(69, 0, 0, 0, 31)])]
/-- CCModel.copies -/
def zb_152 : List (Nat × List zO) := [
  (0, [(5, 0, 0, 0, 0), (10, 2, 0, 0, 1), (55, 2, 0, 0, 2)]),
  (2, [(0, 2, 0, 0, 2), (7, 4326, 0, 0, 3), (45, 21, 9, 0, 6)]),
  (9, [(2, 1, 0, 0, 9), (0, 2, 0, 0, 10), (2, 0, 0, 0, 11), (0, 2, 0, 0, 12), (32, 0, 0, 0, 13), (33, 0, 0, 0, 14), (15, 2, 1, 0, 15), (54, 2, 0, 0, 18)]),
  (21, [(69, 0, 0, 0, 21)])]
/-- CCModel.goesAlone -/
def zb_153 : List (Nat × List zO) := [
  (0, [(2, 0, 0, 0, 0), (0, 1, 0, 0, 1), (64, 154, 2, 176, 2), (2, 0, 0, 0, 5), (17, 7, 9, 20, 6), (0, 1, 0, 0, 9), (6, 24, 0, 0, 10), (63, 155, 2, 167, 12), (40, 0, 0, 0, 15), (32, 0, 0, 0, 16), (5, 1, 0, 0, 17), (20, 0, 0, 0, 18), (33, 0, 0, 0, 19), (2, 0, 0, 0, 20), (17, 7, 9, 20, 21), (0, 1, 0, 0, 24), (5, 1, 0, 0, 25), (63, 155, 2, 167, 26), (0, 1, 0, 0, 29), (33, 0, 0, 0, 30), (2, 0, 0, 0, 31), (17, 7, 9, 20, 32), (0, 1, 0, 0, 35), (5, 0, 0, 0, 36), (63, 155, 2, 167, 37), (5, 0, 0, 0, 40), (33, 0, 0, 0, 41), (2, 0, 0, 0, 42), (0, 1, 0, 0, 43), (5, 1, 0, 0, 44), (2, 0, 0, 0, 45), (17, 7, 9, 20, 46), (5, 2, 0, 0, 49), (32, 0, 0, 0, 50), (64, 158, 4, 179, 51), (69, 0, 0, 0, 54)])]
/-- CCModel.newGroup -/
def zb_154 : List (Nat × List zO) := [
  (0, [(2, 0, 0, 0, 0), (17, 7, 9, 20, 1), (0, 1, 0, 0, 4), (5, 2, 0, 0, 5), (63, 155, 2, 167, 6), (40, 0, 0, 0, 9), (32, 0, 0, 0, 10), (5, 1, 0, 0, 11), (20, 0, 0, 0, 12), (33, 0, 0, 0, 13), (2, 0, 0, 0, 14), (0, 1, 0, 0, 15), (6, 10, 0, 0, 16), (2, 0, 0, 0, 18), (17, 7, 9, 20, 19), (0, 1, 0, 0, 22), (5, 2, 0, 0, 23), (63, 155, 2, 167, 24), (32, 0, 0, 0, 27), (22, 0, 0, 0, 28), (0, 1, 0, 0, 29), (20, 0, 0, 0, 30), (64, 156, 3, 170, 31), (2, 0, 0, 0, 34), (17, 7, 9, 20, 35), (0, 1, 0, 0, 38), (5, 4, 0, 0, 39), (63, 155, 2, 167, 40), (5, 1, 0, 0, 43), (0, 1, 0, 0, 44), (26, 0, 0, 0, 45), (33, 0, 0, 0, 46), (2, 0, 0, 0, 47), (0, 1, 0, 0, 48), (64, 157, 2, 173, 49), (69, 0, 0, 0, 52)])]
/-- CCModel.m -/
def zb_155 : List (Nat × List zO) := [
  (0, [(6, 41, 0, 0, 0), (6, 28, 0, 0, 2), (0, 0, 0, 0, 4), (22, 0, 0, 0, 5), (20, 0, 0, 0, 6), (0, 1, 0, 0, 7), (20, 0, 0, 0, 8), (70, 0, 0, 0, 9)])]
/-- CCModel.changes -/
def zb_156 : List (Nat × List zO) := [
  (0, [(2, 0, 0, 0, 0), (17, 7, 9, 20, 1), (0, 1, 0, 0, 4), (5, 3, 0, 0, 5), (63, 155, 2, 167, 6), (32, 0, 0, 0, 9), (10, 3, 0, 0, 10), (2, 0, 0, 0, 11), (17, 7, 9, 20, 12), (0, 1, 0, 0, 15), (5, 3, 0, 0, 16), (63, 155, 2, 167, 17), (0, 2, 0, 0, 20), (33, 0, 0, 0, 21), (0, 3, 0, 0, 22), (48, 31, 26, 0, 23)]),
  (26, [(0, 3, 0, 0, 26), (0, 2, 0, 0, 27), (43, 32, 31, 0, 28)]),
  (31, [(69, 0, 0, 0, 31)]),
  (32, [(2, 0, 0, 0, 32), (17, 7, 9, 20, 33), (7, 4165, 0, 0, 36), (32, 0, 0, 0, 39), (6, 40, 0, 0, 40), (43, 92, 45, 0, 42)]),
  (45, [(7, 4166, 0, 0, 45), (11, 4, 0, 0, 48), (55, 50, 0, 0, 50)]),
  (50, [(1, 4, 0, 0, 50), (7, 4322, 0, 0, 52), (45, 80, 58, 0, 55)]),
  (58, [(2, 0, 0, 0, 58), (17, 7, 9, 20, 59), (1, 4, 0, 0, 62), (2, 0, 0, 0, 64), (17, 7, 9, 20, 65), (1, 4, 0, 0, 68), (5, 4, 0, 0, 70), (20, 0, 0, 0, 71), (32, 0, 0, 0, 72), (33, 0, 0, 0, 73), (15, 4, 1, 0, 74), (54, 50, 0, 0, 77)]),
  (80, [(2, 0, 0, 0, 80), (17, 7, 9, 20, 81), (7, 4165, 0, 0, 84), (40, 0, 0, 0, 87), (32, 0, 0, 0, 88), (5, 1, 0, 0, 89), (21, 0, 0, 0, 90), (33, 0, 0, 0, 91), (55, 92, 0, 0, 92)]),
  (92, [(7, 4166, 0, 0, 92), (5, 4, 0, 0, 95), (2, 0, 0, 0, 96), (17, 7, 9, 20, 97), (7, 4165, 0, 0, 100), (32, 0, 0, 0, 103), (22, 0, 0, 0, 104), (20, 0, 0, 0, 105), (11, 4, 0, 0, 106), (2, 0, 0, 0, 108), (17, 7, 9, 20, 109), (1, 4, 0, 0, 112), (2, 0, 0, 0, 114), (17, 7, 9, 20, 115), (6, 6, 0, 0, 118), (32, 0, 0, 0, 120), (33, 0, 0, 0, 121), (2, 0, 0, 0, 122), (17, 7, 9, 20, 123), (1, 4, 0, 0, 126), (5, 1, 0, 0, 128), (20, 0, 0, 0, 129), (0, 1, 0, 0, 130), (33, 0, 0, 0, 131), (2, 0, 0, 0, 132), (17, 7, 9, 20, 133), (1, 4, 0, 0, 136), (5, 2, 0, 0, 138), (20, 0, 0, 0, 139), (0, 3, 0, 0, 140), (33, 0, 0, 0, 141), (2, 0, 0, 0, 142), (17, 7, 9, 20, 143), (1, 4, 0, 0, 146), (5, 3, 0, 0, 148), (20, 0, 0, 0, 149), (0, 2, 0, 0, 150), (33, 0, 0, 0, 151), (2, 0, 0, 0, 152), (17, 7, 9, 20, 153), (7, 4165, 0, 0, 156), (40, 0, 0, 0, 159), (32, 0, 0, 0, 160), (5, 1, 0, 0, 161), (20, 0, 0, 0, 162), (33, 0, 0, 0, 163), (69, 0, 0, 0, 164)])]
/-- CCModel.noneFound -/
def zb_157 : List (Nat × List zO) := [
  (0, [(2, 0, 0, 0, 0), (17, 7, 9, 20, 1), (0, 1, 0, 0, 4), (5, 5, 0, 0, 5), (63, 155, 2, 167, 6), (5, 0, 0, 0, 9), (33, 0, 0, 0, 10), (2, 0, 0, 0, 11), (17, 7, 9, 20, 12), (0, 1, 0, 0, 15), (6, 20, 0, 0, 16), (63, 155, 2, 167, 18), (5, 0, 0, 0, 21), (33, 0, 0, 0, 22), (69, 0, 0, 0, 23)])]
/-- CCModel.phase -/
def zb_158 : List (Nat × List zO) := [
  (0, [(2, 0, 0, 0, 0), (17, 7, 9, 20, 1), (0, 1, 0, 0, 4), (6, 6, 0, 0, 5), (63, 155, 2, 167, 7), (0, 2, 0, 0, 10), (33, 0, 0, 0, 11), (2, 0, 0, 0, 12), (17, 7, 9, 20, 13), (0, 1, 0, 0, 16), (6, 7, 0, 0, 17), (63, 155, 2, 167, 19), (2, 0, 0, 0, 22), (17, 7, 9, 20, 23), (6, 6, 0, 0, 26), (32, 0, 0, 0, 28), (0, 3, 0, 0, 29), (20, 0, 0, 0, 30), (33, 0, 0, 0, 31), (69, 0, 0, 0, 32)])]
/-- CCModel.thrown -/
def zb_159 : List (Nat × List zO) := [
  (0, [(2, 0, 0, 0, 0), (16, 7, 0, 48, 1), (70, 0, 0, 0, 4)])]
/-- CCModel.feed -/
def zb_160 : List (Nat × List zO) := [
  (0, [(2, 0, 0, 0, 0), (5, 0, 0, 0, 1), (18, 7, 0, 48, 2), (2, 0, 0, 0, 5), (16, 7, 2, 51, 6), (6, 20, 0, 0, 9), (20, 0, 0, 0, 11), (7, 200, 0, 0, 12), (47, 20, 18, 0, 15)]),
  (18, [(5, 4294967295, 0, 0, 18), (70, 0, 0, 0, 19)]),
  (20, [(5, 0, 0, 0, 20), (11, 6, 0, 0, 21), (55, 23, 0, 0, 23)]),
  (23, [(1, 6, 0, 0, 23), (6, 20, 0, 0, 25), (45, 120, 30, 0, 27)]),
  (30, [(1, 6, 0, 0, 30), (5, 4, 0, 0, 32), (45, 40, 36, 0, 33)]),
  (36, [(0, 1, 0, 0, 36), (54, 76, 0, 0, 37)]),
  (40, [(1, 6, 0, 0, 40), (6, 8, 0, 0, 42), (45, 51, 47, 0, 44)]),
  (47, [(0, 2, 0, 0, 47), (54, 76, 0, 0, 48)]),
  (51, [(1, 6, 0, 0, 51), (6, 12, 0, 0, 53), (45, 62, 58, 0, 55)]),
  (58, [(0, 3, 0, 0, 58), (54, 76, 0, 0, 59)]),
  (62, [(1, 6, 0, 0, 62), (6, 16, 0, 0, 64), (45, 74, 69, 0, 66)]),
  (69, [(1, 4, 0, 0, 69), (54, 76, 0, 0, 71)]),
  (74, [(1, 5, 0, 0, 74), (55, 76, 0, 0, 76)]),
  (76, [(11, 7, 0, 0, 76), (2, 0, 0, 0, 78), (17, 7, 8, 17, 79), (2, 0, 0, 0, 82), (16, 7, 2, 51, 83), (1, 7, 0, 0, 86), (6, 24, 0, 0, 88), (6, 8, 0, 0, 90), (1, 6, 0, 0, 92), (5, 4, 0, 0, 94), (30, 0, 0, 0, 95), (22, 0, 0, 0, 96), (21, 0, 0, 0, 97), (27, 0, 0, 0, 98), (7, 255, 0, 0, 99), (23, 0, 0, 0, 102), (33, 0, 0, 0, 103), (2, 0, 0, 0, 104), (39, 0, 0, 0, 105), (16, 7, 2, 51, 106), (5, 1, 0, 0, 109), (20, 0, 0, 0, 110), (18, 7, 2, 51, 111), (15, 6, 1, 0, 114), (54, 23, 0, 0, 117)]),
  (120, [(2, 0, 0, 0, 120), (16, 7, 2, 51, 121), (70, 0, 0, 0, 124)])]
/-- CCModel.text -/
def zb_161 : List (Nat × List zO) := [
  (0, [(2, 0, 0, 0, 0), (5, 0, 0, 0, 1), (18, 7, 0, 48, 2), (2, 0, 0, 0, 5), (0, 1, 0, 0, 6), (5, 0, 0, 0, 7), (2, 0, 0, 0, 8), (16, 7, 2, 51, 9), (63, 162, 3, 94, 12), (49, 22, 18, 0, 15)]),
  (18, [(5, 1, 0, 0, 18), (54, 23, 0, 0, 19)]),
  (22, [(5, 0, 0, 0, 22), (55, 23, 0, 0, 23)]),
  (23, [(5, 1, 0, 0, 23), (5, 1, 0, 0, 24), (64, 163, 4, 148, 25), (48, 33, 31, 0, 28)]),
  (31, [(5, 0, 0, 0, 31), (70, 0, 0, 0, 32)]),
  (33, [(2, 0, 0, 0, 33), (5, 0, 0, 0, 34), (18, 7, 2, 51, 35), (2, 0, 0, 0, 38), (0, 1, 0, 0, 39), (18, 7, 3, 54, 40), (2, 0, 0, 0, 43), (5, 0, 0, 0, 44), (18, 7, 4, 57, 45), (2, 0, 0, 0, 48), (5, 0, 0, 0, 49), (18, 7, 6, 64, 50), (2, 0, 0, 0, 53), (5, 4294967295, 0, 0, 54), (18, 7, 7, 67, 55), (2, 0, 0, 0, 58), (5, 0, 0, 0, 59), (18, 7, 16, 129, 60), (2, 0, 0, 0, 63), (64, 164, 1, 74, 64), (41, 0, 0, 0, 67), (2, 0, 0, 0, 68), (16, 7, 4, 57, 69), (10, 2, 0, 0, 72), (2, 0, 0, 0, 73), (79, 13, 0, 152, 74), (64, 166, 2, 115, 76), (49, 88, 82, 0, 79)]),
  (82, [(2, 0, 0, 0, 82), (5, 1, 0, 0, 83), (0, 2, 0, 0, 84), (64, 169, 3, 82, 85), (55, 88, 0, 0, 88)]),
  (88, [(2, 0, 0, 0, 88), (2, 0, 0, 0, 89), (5, 2, 0, 0, 90), (6, 8, 0, 0, 91), (64, 170, 3, 110, 93), (64, 150, 2, 40, 96), (2, 0, 0, 0, 99), (64, 173, 1, 145, 100), (55, 103, 0, 0, 103)]),
  (103, [(2, 0, 0, 0, 103), (64, 167, 1, 70, 104), (48, 125, 110, 0, 107)]),
  (110, [(2, 0, 0, 0, 110), (64, 164, 1, 74, 111), (5, 4294967295, 0, 0, 114), (42, 125, 118, 0, 115)]),
  (118, [(2, 0, 0, 0, 118), (64, 174, 1, 154, 119), (54, 103, 0, 0, 122)]),
  (125, [(2, 0, 0, 0, 125), (2, 0, 0, 0, 126), (16, 7, 7, 67, 127), (18, 7, 5, 13, 130), (2, 0, 0, 0, 133), (64, 167, 1, 70, 134), (49, 148, 140, 0, 137)]),
  (140, [(2, 0, 0, 0, 140), (16, 7, 6, 64, 141), (6, 10, 0, 0, 144), (21, 0, 0, 0, 146), (70, 0, 0, 0, 147)]),
  (148, [(2, 0, 0, 0, 148), (2, 0, 0, 0, 149), (17, 7, 10, 23, 150), (64, 151, 2, 44, 153), (2, 0, 0, 0, 156), (5, 0, 0, 0, 157), (18, 7, 14, 157, 158), (2, 0, 0, 0, 161), (17, 7, 9, 20, 162), (5, 0, 0, 0, 165), (32, 0, 0, 0, 166), (70, 0, 0, 0, 167)])]
/-- CCModel.in -/
def zb_162 : List (Nat × List zO) := [
  (0, [(0, 0, 0, 0, 0), (0, 1, 0, 0, 1), (44, 14, 5, 0, 2)]),
  (5, [(0, 0, 0, 0, 5), (0, 2, 0, 0, 6), (46, 14, 10, 0, 7)]),
  (10, [(5, 1, 0, 0, 10), (54, 15, 0, 0, 11)]),
  (14, [(5, 0, 0, 0, 14), (55, 15, 0, 0, 15)]),
  (15, [(72, 0, 0, 0, 15)])]
/-- CCModel.bad -/
def zb_163 : List (Nat × List zO) := [
  (0, [(0, 1, 0, 0, 0), (48, 26, 4, 0, 1)]),
  (4, [(2, 0, 0, 0, 4), (16, 7, 0, 48, 5), (49, 26, 11, 0, 8)]),
  (11, [(2, 0, 0, 0, 11), (0, 2, 0, 0, 12), (18, 7, 0, 48, 13), (2, 0, 0, 0, 16), (17, 7, 1, 9, 17), (0, 3, 0, 0, 20), (40, 0, 0, 0, 21), (32, 0, 0, 0, 22), (5, 1, 0, 0, 23), (20, 0, 0, 0, 24), (33, 0, 0, 0, 25), (55, 26, 0, 0, 26)]),
  (26, [(2, 0, 0, 0, 26), (16, 7, 0, 48, 27), (48, 37, 33, 0, 30)]),
  (33, [(5, 1, 0, 0, 33), (54, 38, 0, 0, 34)]),
  (37, [(5, 0, 0, 0, 37), (55, 38, 0, 0, 38)]),
  (38, [(72, 0, 0, 0, 38)])]
/-- CCModel.here -/
def zb_164 : List (Nat × List zO) := [
  (0, [(2, 0, 0, 0, 0), (2, 0, 0, 0, 1), (16, 7, 4, 57, 2), (64, 165, 2, 60, 5), (6, 32, 0, 0, 8), (43, 26, 13, 0, 10)]),
  (13, [(2, 0, 0, 0, 13), (39, 0, 0, 0, 14), (16, 7, 4, 57, 15), (5, 1, 0, 0, 18), (20, 0, 0, 0, 19), (18, 7, 4, 57, 20), (54, 0, 0, 0, 23)]),
  (26, [(2, 0, 0, 0, 26), (2, 0, 0, 0, 27), (16, 7, 4, 57, 28), (64, 165, 2, 60, 31), (70, 0, 0, 0, 34)])]
/-- CCModel.byteAt -/
def zb_165 : List (Nat × List zO) := [
  (0, [(0, 1, 0, 0, 0), (2, 0, 0, 0, 1), (16, 7, 3, 54, 2), (44, 12, 8, 0, 5)]),
  (8, [(5, 4294967295, 0, 0, 8), (54, 18, 0, 0, 9)]),
  (12, [(2, 0, 0, 0, 12), (17, 7, 8, 17, 13), (0, 1, 0, 0, 16), (32, 0, 0, 0, 17), (55, 18, 0, 0, 18)]),
  (18, [(70, 0, 0, 0, 18)])]
/-- CCModel.takes -/
def zb_166 : List (Nat × List zO) := [
  (0, [(2, 0, 0, 0, 0), (64, 167, 1, 70, 1), (49, 9, 7, 0, 4)]),
  (7, [(5, 0, 0, 0, 7), (72, 0, 0, 0, 8)]),
  (9, [(2, 0, 0, 0, 9), (64, 164, 1, 74, 10), (41, 0, 0, 0, 13), (5, 0, 0, 0, 14), (10, 2, 0, 0, 15), (55, 16, 0, 0, 16)]),
  (16, [(0, 2, 0, 0, 16), (2, 1, 0, 0, 17), (81, 0, 0, 98, 18), (45, 48, 24, 0, 21)]),
  (24, [(2, 0, 0, 0, 24), (2, 0, 0, 0, 25), (16, 7, 4, 57, 26), (0, 2, 0, 0, 29), (20, 0, 0, 0, 30), (64, 165, 2, 60, 31), (2, 1, 0, 0, 34), (0, 2, 0, 0, 35), (82, 0, 0, 103, 36), (43, 48, 42, 0, 39)]),
  (42, [(15, 2, 1, 0, 42), (54, 16, 0, 0, 45)]),
  (48, [(0, 2, 0, 0, 48), (2, 1, 0, 0, 49), (81, 0, 0, 98, 50), (44, 72, 56, 0, 53)]),
  (56, [(2, 0, 0, 0, 56), (2, 0, 0, 0, 57), (16, 7, 4, 57, 58), (0, 2, 0, 0, 61), (20, 0, 0, 0, 62), (64, 165, 2, 60, 63), (63, 168, 1, 107, 66), (48, 74, 72, 0, 69)]),
  (72, [(5, 0, 0, 0, 72), (72, 0, 0, 0, 73)]),
  (74, [(2, 0, 0, 0, 74), (39, 0, 0, 0, 75), (16, 7, 4, 57, 76), (0, 2, 0, 0, 79), (20, 0, 0, 0, 80), (18, 7, 4, 57, 81), (5, 1, 0, 0, 84), (72, 0, 0, 0, 85)])]
/-- CCModel.fine -/
def zb_167 : List (Nat × List zO) := [
  (0, [(2, 0, 0, 0, 0), (16, 7, 6, 64, 1), (49, 11, 7, 0, 4)]),
  (7, [(5, 1, 0, 0, 7), (54, 12, 0, 0, 8)]),
  (11, [(5, 0, 0, 0, 11), (55, 12, 0, 0, 12)]),
  (12, [(72, 0, 0, 0, 12)])]
/-- CCModel.isSmall -/
def zb_168 : List (Nat × List zO) := [
  (0, [(0, 0, 0, 0, 0), (6, 97, 0, 0, 1), (44, 16, 6, 0, 3)]),
  (6, [(0, 0, 0, 0, 6), (6, 122, 0, 0, 7), (46, 16, 12, 0, 9)]),
  (12, [(5, 1, 0, 0, 12), (54, 17, 0, 0, 13)]),
  (16, [(5, 0, 0, 0, 16), (55, 17, 0, 0, 17)]),
  (17, [(72, 0, 0, 0, 17)])]
/-- CCModel.wrong -/
def zb_169 : List (Nat × List zO) := [
  (0, [(2, 0, 0, 0, 0), (16, 7, 6, 64, 1), (49, 17, 7, 0, 4)]),
  (7, [(2, 0, 0, 0, 7), (0, 1, 0, 0, 8), (18, 7, 6, 64, 9), (2, 0, 0, 0, 12), (0, 2, 0, 0, 13), (18, 7, 7, 67, 14), (55, 17, 0, 0, 17)]),
  (17, [(69, 0, 0, 0, 17)])]
/-- CCModel.number -/
def zb_170 : List (Nat × List zO) := [
  (0, [(2, 0, 0, 0, 0), (64, 167, 1, 70, 1), (49, 9, 7, 0, 4)]),
  (7, [(0, 1, 0, 0, 7), (70, 0, 0, 0, 8)]),
  (9, [(2, 0, 0, 0, 9), (64, 164, 1, 74, 10), (63, 171, 1, 78, 13), (49, 28, 19, 0, 16)]),
  (19, [(2, 0, 0, 0, 19), (5, 1, 0, 0, 20), (2, 0, 0, 0, 21), (16, 7, 4, 57, 22), (64, 169, 3, 82, 25), (55, 28, 0, 0, 28)]),
  (28, [(2, 0, 0, 0, 28), (2, 0, 0, 0, 29), (16, 7, 4, 57, 30), (18, 7, 15, 86, 33), (5, 0, 0, 0, 36), (10, 3, 0, 0, 37), (55, 38, 0, 0, 38)]),
  (38, [(2, 0, 0, 0, 38), (2, 0, 0, 0, 39), (16, 7, 4, 57, 40), (64, 165, 2, 60, 43), (63, 171, 1, 78, 46), (48, 87, 52, 0, 49)]),
  (52, [(8, 100000, 0, 89, 52), (6, 10, 0, 0, 54), (0, 3, 0, 0, 56), (22, 0, 0, 0, 57), (2, 0, 0, 0, 58), (2, 0, 0, 0, 59), (16, 7, 4, 57, 60), (64, 165, 2, 60, 63), (20, 0, 0, 0, 66), (6, 48, 0, 0, 67), (21, 0, 0, 0, 69), (63, 172, 2, 90, 70), (10, 3, 0, 0, 73), (2, 0, 0, 0, 74), (39, 0, 0, 0, 75), (16, 7, 4, 57, 76), (5, 1, 0, 0, 79), (20, 0, 0, 0, 80), (18, 7, 4, 57, 81), (54, 38, 0, 0, 84)]),
  (87, [(0, 3, 0, 0, 87), (0, 1, 0, 0, 88), (0, 2, 0, 0, 89), (63, 162, 3, 94, 90), (49, 105, 96, 0, 93)]),
  (96, [(2, 0, 0, 0, 96), (5, 2, 0, 0, 97), (2, 0, 0, 0, 98), (16, 7, 15, 86, 99), (64, 169, 3, 82, 102), (55, 105, 0, 0, 105)]),
  (105, [(2, 0, 0, 0, 105), (64, 167, 1, 70, 106), (48, 116, 112, 0, 109)]),
  (112, [(0, 3, 0, 0, 112), (54, 117, 0, 0, 113)]),
  (116, [(0, 1, 0, 0, 116), (55, 117, 0, 0, 117)]),
  (117, [(70, 0, 0, 0, 117)])]
/-- CCModel.isDigit -/
def zb_171 : List (Nat × List zO) := [
  (0, [(0, 0, 0, 0, 0), (6, 48, 0, 0, 1), (44, 16, 6, 0, 3)]),
  (6, [(0, 0, 0, 0, 6), (6, 57, 0, 0, 7), (46, 16, 12, 0, 9)]),
  (12, [(5, 1, 0, 0, 12), (54, 17, 0, 0, 13)]),
  (16, [(5, 0, 0, 0, 16), (55, 17, 0, 0, 17)]),
  (17, [(72, 0, 0, 0, 17)])]
/-- CCModel.less -/
def zb_172 : List (Nat × List zO) := [
  (0, [(0, 0, 0, 0, 0), (0, 1, 0, 0, 1), (45, 9, 5, 0, 2)]),
  (5, [(0, 0, 0, 0, 5), (54, 10, 0, 0, 6)]),
  (9, [(0, 1, 0, 0, 9), (55, 10, 0, 0, 10)]),
  (10, [(70, 0, 0, 0, 10)])]
/-- CCModel.ends -/
def zb_173 : List (Nat × List zO) := [
  (0, [(2, 0, 0, 0, 0), (64, 167, 1, 70, 1), (49, 8, 7, 0, 4)]),
  (7, [(69, 0, 0, 0, 7)]),
  (8, [(2, 0, 0, 0, 8), (64, 164, 1, 74, 9), (6, 59, 0, 0, 12), (43, 30, 17, 0, 14)]),
  (17, [(2, 0, 0, 0, 17), (39, 0, 0, 0, 18), (16, 7, 4, 57, 19), (5, 1, 0, 0, 22), (20, 0, 0, 0, 23), (18, 7, 4, 57, 24), (54, 39, 0, 0, 27)]),
  (30, [(2, 0, 0, 0, 30), (5, 1, 0, 0, 31), (2, 0, 0, 0, 32), (16, 7, 4, 57, 33), (64, 169, 3, 82, 36), (55, 39, 0, 0, 39)]),
  (39, [(69, 0, 0, 0, 39)])]
/-- CCModel.readsLine -/
def zb_174 : List (Nat × List zO) := [
  (0, [(2, 0, 0, 0, 0), (64, 164, 1, 74, 1), (41, 0, 0, 0, 4), (2, 0, 0, 0, 5), (16, 7, 4, 57, 6), (10, 1, 0, 0, 9), (2, 0, 0, 0, 10), (79, 14, 0, 113, 11), (64, 166, 2, 115, 13), (48, 23, 19, 0, 16)]),
  (19, [(5, 0, 0, 0, 19), (54, 89, 0, 0, 20)]),
  (23, [(2, 0, 0, 0, 23), (79, 15, 0, 119, 24), (64, 166, 2, 115, 26), (48, 36, 32, 0, 29)]),
  (32, [(5, 1, 0, 0, 32), (54, 89, 0, 0, 33)]),
  (36, [(2, 0, 0, 0, 36), (79, 16, 0, 121, 37), (64, 166, 2, 115, 39), (48, 49, 45, 0, 42)]),
  (45, [(5, 2, 0, 0, 45), (54, 89, 0, 0, 46)]),
  (49, [(2, 0, 0, 0, 49), (79, 17, 0, 123, 50), (64, 166, 2, 115, 52), (48, 62, 58, 0, 55)]),
  (58, [(5, 3, 0, 0, 58), (54, 89, 0, 0, 59)]),
  (62, [(2, 0, 0, 0, 62), (79, 18, 0, 125, 63), (64, 166, 2, 115, 65), (48, 75, 71, 0, 68)]),
  (71, [(5, 4, 0, 0, 71), (54, 89, 0, 0, 72)]),
  (75, [(2, 0, 0, 0, 75), (79, 19, 0, 127, 76), (64, 166, 2, 115, 78), (48, 88, 84, 0, 81)]),
  (84, [(5, 5, 0, 0, 84), (54, 89, 0, 0, 85)]),
  (88, [(5, 4294967295, 0, 0, 88), (55, 89, 0, 0, 89)]),
  (89, [(10, 2, 0, 0, 89), (0, 2, 0, 0, 90), (5, 4294967295, 0, 0, 91), (43, 101, 95, 0, 92)]),
  (95, [(2, 0, 0, 0, 95), (5, 1, 0, 0, 96), (0, 1, 0, 0, 97), (64, 169, 3, 82, 98), (55, 101, 0, 0, 101)]),
  (101, [(2, 0, 0, 0, 101), (64, 167, 1, 70, 102), (48, 125, 108, 0, 105)]),
  (108, [(2, 0, 0, 0, 108), (16, 7, 16, 129, 109), (0, 2, 0, 0, 112), (63, 175, 2, 132, 113), (48, 125, 119, 0, 116)]),
  (119, [(2, 0, 0, 0, 119), (5, 4, 0, 0, 120), (0, 1, 0, 0, 121), (64, 169, 3, 82, 122), (55, 125, 0, 0, 125)]),
  (125, [(2, 0, 0, 0, 125), (64, 167, 1, 70, 126), (49, 133, 132, 0, 129)]),
  (132, [(69, 0, 0, 0, 132)]),
  (133, [(2, 0, 0, 0, 133), (39, 0, 0, 0, 134), (16, 7, 16, 129, 135), (5, 1, 0, 0, 138), (0, 2, 0, 0, 139), (26, 0, 0, 0, 140), (24, 0, 0, 0, 141), (18, 7, 16, 129, 142), (0, 2, 0, 0, 145), (49, 156, 149, 0, 146)]),
  (149, [(2, 0, 0, 0, 149), (64, 176, 1, 136, 150), (54, 205, 0, 0, 153)]),
  (156, [(0, 2, 0, 0, 156), (5, 1, 0, 0, 157), (43, 177, 161, 0, 158)]),
  (161, [(2, 0, 0, 0, 161), (17, 7, 10, 23, 162), (5, 1, 0, 0, 165), (2, 0, 0, 0, 166), (5, 1, 0, 0, 167), (6, 6, 0, 0, 168), (64, 170, 3, 110, 170), (33, 0, 0, 0, 173), (54, 205, 0, 0, 174)]),
  (177, [(2, 0, 0, 0, 177), (17, 7, 10, 23, 178), (5, 2, 0, 0, 181), (0, 2, 0, 0, 182), (20, 0, 0, 0, 183), (5, 2, 0, 0, 184), (21, 0, 0, 0, 185), (2, 0, 0, 0, 186), (78, 4, 0, 139, 187), (0, 2, 0, 0, 190), (5, 2, 0, 0, 191), (21, 0, 0, 0, 192), (32, 0, 0, 0, 193), (78, 5, 0, 142, 194), (0, 2, 0, 0, 197), (5, 2, 0, 0, 198), (21, 0, 0, 0, 199), (32, 0, 0, 0, 200), (64, 170, 3, 110, 201), (33, 0, 0, 0, 204), (55, 205, 0, 0, 205)]),
  (205, [(2, 0, 0, 0, 205), (64, 173, 1, 145, 206), (69, 0, 0, 0, 209)])]
/-- CCModel.has -/
def zb_175 : List (Nat × List zO) := [
  (0, [(0, 0, 0, 0, 0), (0, 1, 0, 0, 1), (27, 0, 0, 0, 2), (5, 1, 0, 0, 3), (23, 0, 0, 0, 4), (5, 1, 0, 0, 5), (43, 13, 9, 0, 6)]),
  (9, [(5, 1, 0, 0, 9), (54, 14, 0, 0, 10)]),
  (13, [(5, 0, 0, 0, 13), (55, 14, 0, 0, 14)]),
  (14, [(72, 0, 0, 0, 14)])]
/-- CCModel.readsRanks -/
def zb_176 : List (Nat × List zO) := [
  (0, [(5, 0, 0, 0, 0), (10, 1, 0, 0, 1), (55, 2, 0, 0, 2)]),
  (2, [(0, 1, 0, 0, 2), (2, 0, 0, 0, 3), (17, 7, 10, 23, 4), (5, 0, 0, 0, 7), (32, 0, 0, 0, 8), (45, 102, 12, 0, 9)]),
  (12, [(2, 0, 0, 0, 12), (64, 167, 1, 70, 13), (48, 102, 19, 0, 16)]),
  (19, [(2, 0, 0, 0, 19), (5, 0, 0, 0, 20), (6, 99, 0, 0, 21), (64, 170, 3, 110, 23), (10, 2, 0, 0, 26), (5, 0, 0, 0, 27), (10, 3, 0, 0, 28), (5, 0, 0, 0, 29), (11, 4, 0, 0, 30), (55, 32, 0, 0, 32)]),
  (32, [(1, 4, 0, 0, 32), (0, 1, 0, 0, 34), (45, 66, 38, 0, 35)]),
  (38, [(0, 3, 0, 0, 38), (2, 0, 0, 0, 39), (17, 7, 10, 23, 40), (6, 33, 0, 0, 43), (1, 4, 0, 0, 45), (20, 0, 0, 0, 47), (32, 0, 0, 0, 48), (0, 2, 0, 0, 49), (43, 57, 53, 0, 50)]),
  (53, [(5, 1, 0, 0, 53), (54, 58, 0, 0, 54)]),
  (57, [(5, 0, 0, 0, 57), (55, 58, 0, 0, 58)]),
  (58, [(24, 0, 0, 0, 58), (10, 3, 0, 0, 59), (15, 4, 1, 0, 60), (54, 32, 0, 0, 63)]),
  (66, [(2, 0, 0, 0, 66), (64, 167, 1, 70, 67), (48, 86, 73, 0, 70)]),
  (73, [(0, 3, 0, 0, 73), (48, 86, 77, 0, 74)]),
  (77, [(2, 0, 0, 0, 77), (5, 3, 0, 0, 78), (2, 0, 0, 0, 79), (16, 7, 15, 86, 80), (64, 169, 3, 82, 83), (55, 86, 0, 0, 86)]),
  (86, [(2, 0, 0, 0, 86), (17, 7, 10, 23, 87), (6, 33, 0, 0, 90), (0, 1, 0, 0, 92), (20, 0, 0, 0, 93), (0, 2, 0, 0, 94), (33, 0, 0, 0, 95), (15, 1, 1, 0, 96), (54, 2, 0, 0, 99)]),
  (102, [(69, 0, 0, 0, 102)])]
/-- CCModel.fault -/
def zb_177 : List (Nat × List zO) := [
  (0, [(2, 0, 0, 0, 0), (5, 0, 0, 0, 1), (18, 7, 0, 48, 2), (2, 0, 0, 0, 5), (16, 7, 5, 13, 6), (70, 0, 0, 0, 9)])]
/-- CCModel.undo -/
def zb_178 : List (Nat × List zO) := [
  (0, [(2, 0, 0, 0, 0), (5, 0, 0, 0, 1), (18, 7, 0, 48, 2), (2, 0, 0, 0, 5), (16, 7, 14, 157, 6), (49, 14, 12, 0, 9)]),
  (12, [(5, 4294967295, 0, 0, 12), (70, 0, 0, 0, 13)]),
  (14, [(2, 0, 0, 0, 14), (39, 0, 0, 0, 15), (16, 7, 14, 157, 16), (5, 1, 0, 0, 19), (21, 0, 0, 0, 20), (18, 7, 14, 157, 21), (2, 0, 0, 0, 24), (17, 7, 13, 34, 25), (2, 0, 0, 0, 28), (16, 7, 14, 157, 29), (34, 0, 0, 0, 32), (2, 0, 0, 0, 33), (17, 7, 9, 20, 34), (63, 152, 2, 160, 37), (2, 0, 0, 0, 40), (16, 7, 14, 157, 41), (70, 0, 0, 0, 44)])]
/-- CCModel.ticks -/
def zb_179 : List (Nat × List zO) := [
  (0, [(2, 0, 0, 0, 0), (5, 0, 0, 0, 1), (18, 7, 0, 48, 2), (2, 0, 0, 0, 5), (0, 1, 0, 0, 6), (5, 1, 0, 0, 7), (6, 100, 0, 0, 8), (63, 162, 3, 94, 10), (49, 20, 16, 0, 13)]),
  (16, [(5, 1, 0, 0, 16), (54, 21, 0, 0, 17)]),
  (20, [(5, 0, 0, 0, 20), (55, 21, 0, 0, 21)]),
  (21, [(5, 1, 0, 0, 21), (5, 1, 0, 0, 22), (64, 163, 4, 148, 23), (48, 31, 29, 0, 26)]),
  (29, [(5, 0, 0, 0, 29), (70, 0, 0, 0, 30)]),
  (31, [(2, 0, 0, 0, 31), (64, 180, 1, 244, 32), (2, 0, 0, 0, 35), (0, 1, 0, 0, 36), (64, 181, 2, 247, 37), (70, 0, 0, 0, 40)])]
/-- CCModel.remembers -/
def zb_180 : List (Nat × List zO) := [
  (0, [(2, 0, 0, 0, 0), (16, 7, 14, 157, 1), (6, 8, 0, 0, 4), (43, 50, 9, 0, 6)]),
  (9, [(5, 1, 0, 0, 9), (10, 1, 0, 0, 10), (55, 11, 0, 0, 11)]),
  (11, [(0, 1, 0, 0, 11), (6, 8, 0, 0, 12), (45, 40, 17, 0, 14)]),
  (17, [(2, 0, 0, 0, 17), (17, 7, 13, 34, 18), (0, 1, 0, 0, 21), (34, 0, 0, 0, 22), (2, 0, 0, 0, 23), (17, 7, 13, 34, 24), (0, 1, 0, 0, 27), (5, 1, 0, 0, 28), (21, 0, 0, 0, 29), (34, 0, 0, 0, 30), (63, 152, 2, 160, 31), (15, 1, 1, 0, 34), (54, 11, 0, 0, 37)]),
  (40, [(2, 0, 0, 0, 40), (39, 0, 0, 0, 41), (16, 7, 14, 157, 42), (5, 1, 0, 0, 45), (21, 0, 0, 0, 46), (18, 7, 14, 157, 47), (55, 50, 0, 0, 50)]),
  (50, [(2, 0, 0, 0, 50), (17, 7, 9, 20, 51), (2, 0, 0, 0, 54), (17, 7, 13, 34, 55), (2, 0, 0, 0, 58), (16, 7, 14, 157, 59), (34, 0, 0, 0, 62), (63, 152, 2, 160, 63), (2, 0, 0, 0, 66), (39, 0, 0, 0, 67), (16, 7, 14, 157, 68), (5, 1, 0, 0, 71), (20, 0, 0, 0, 72), (18, 7, 14, 157, 73), (69, 0, 0, 0, 76)])]
/-- CCModel.ticksOf -/
def zb_181 : List (Nat × List zO) := [
  (0, [(2, 0, 0, 0, 0), (5, 0, 0, 0, 1), (18, 7, 18, 214, 2), (5, 0, 0, 0, 5), (10, 2, 0, 0, 6), (55, 7, 0, 0, 7)]),
  (7, [(0, 2, 0, 0, 7), (0, 1, 0, 0, 8), (45, 22, 12, 0, 9)]),
  (12, [(2, 0, 0, 0, 12), (64, 182, 1, 241, 13), (15, 2, 1, 0, 16), (54, 7, 0, 0, 19)]),
  (22, [(2, 0, 0, 0, 22), (16, 7, 18, 214, 23), (70, 0, 0, 0, 26)])]
/-- CCModel.tick -/
def zb_182 : List (Nat × List zO) := [
  (0, [(2, 0, 0, 0, 0), (17, 7, 9, 20, 1), (6, 6, 0, 0, 4), (40, 0, 0, 0, 6), (32, 0, 0, 0, 7), (5, 1, 0, 0, 8), (20, 0, 0, 0, 9), (33, 0, 0, 0, 10), (2, 0, 0, 0, 11), (64, 183, 1, 232, 12), (5, 0, 0, 0, 15), (10, 1, 0, 0, 16), (55, 17, 0, 0, 17)]),
  (17, [(0, 1, 0, 0, 17), (2, 0, 0, 0, 18), (17, 7, 9, 20, 19), (5, 0, 0, 0, 22), (32, 0, 0, 0, 23), (45, 67, 27, 0, 24)]),
  (27, [(2, 0, 0, 0, 27), (0, 1, 0, 0, 28), (64, 186, 2, 211, 29), (49, 61, 35, 0, 32)]),
  (35, [(2, 0, 0, 0, 35), (17, 7, 9, 20, 36), (0, 1, 0, 0, 39), (6, 7, 0, 0, 40), (63, 155, 2, 167, 42), (32, 0, 0, 0, 45), (2, 0, 0, 0, 46), (17, 7, 9, 20, 47), (6, 6, 0, 0, 50), (32, 0, 0, 0, 52), (43, 61, 56, 0, 53)]),
  (56, [(2, 0, 0, 0, 56), (0, 1, 0, 0, 57), (64, 195, 2, 235, 58), (55, 61, 0, 0, 61)]),
  (61, [(15, 1, 1, 0, 61), (54, 17, 0, 0, 64)]),
  (67, [(5, 0, 0, 0, 67), (10, 1, 0, 0, 68), (55, 69, 0, 0, 69)]),
  (69, [(0, 1, 0, 0, 69), (2, 0, 0, 0, 70), (17, 7, 9, 20, 71), (5, 0, 0, 0, 74), (32, 0, 0, 0, 75), (45, 90, 79, 0, 76)]),
  (79, [(2, 0, 0, 0, 79), (0, 1, 0, 0, 80), (64, 198, 2, 238, 81), (15, 1, 1, 0, 84), (54, 69, 0, 0, 87)]),
  (90, [(5, 0, 0, 0, 90), (10, 1, 0, 0, 91), (55, 92, 0, 0, 92)]),
  (92, [(0, 1, 0, 0, 92), (2, 0, 0, 0, 93), (17, 7, 9, 20, 94), (5, 0, 0, 0, 97), (32, 0, 0, 0, 98), (45, 134, 102, 0, 99)]),
  (102, [(2, 0, 0, 0, 102), (17, 7, 9, 20, 103), (0, 1, 0, 0, 106), (6, 21, 0, 0, 107), (2, 0, 0, 0, 109), (17, 7, 9, 20, 110), (0, 1, 0, 0, 113), (5, 0, 0, 0, 114), (63, 155, 2, 167, 115), (32, 0, 0, 0, 118), (20, 0, 0, 0, 119), (63, 155, 2, 167, 120), (40, 0, 0, 0, 123), (32, 0, 0, 0, 124), (5, 1, 0, 0, 125), (20, 0, 0, 0, 126), (33, 0, 0, 0, 127), (15, 1, 1, 0, 128), (54, 92, 0, 0, 131)]),
  (134, [(69, 0, 0, 0, 134)])]
/-- CCModel.arrives -/
def zb_183 : List (Nat × List zO) := [
  (0, [(5, 0, 0, 0, 0), (10, 1, 0, 0, 1), (55, 2, 0, 0, 2)]),
  (2, [(0, 1, 0, 0, 2), (2, 0, 0, 0, 3), (17, 7, 9, 20, 4), (6, 8, 0, 0, 7), (32, 0, 0, 0, 9), (45, 130, 13, 0, 10)]),
  (13, [(2, 0, 0, 0, 13), (17, 7, 9, 20, 14), (7, 265, 0, 0, 17), (6, 13, 0, 0, 20), (0, 1, 0, 0, 22), (22, 0, 0, 0, 23), (20, 0, 0, 0, 24), (5, 3, 0, 0, 25), (20, 0, 0, 0, 26), (32, 0, 0, 0, 27), (2, 0, 0, 0, 28), (17, 7, 9, 20, 29), (6, 6, 0, 0, 32), (32, 0, 0, 0, 34), (42, 44, 38, 0, 35)]),
  (38, [(15, 1, 1, 0, 38), (54, 2, 0, 0, 41)]),
  (44, [(2, 0, 0, 0, 44), (0, 1, 0, 0, 45), (64, 184, 2, 205, 46), (2, 0, 0, 0, 49), (2, 0, 0, 0, 50), (17, 7, 17, 37, 51), (5, 0, 0, 0, 54), (32, 0, 0, 0, 55), (2, 0, 0, 0, 56), (17, 7, 17, 37, 57), (5, 1, 0, 0, 60), (32, 0, 0, 0, 61), (64, 185, 3, 208, 62), (48, 81, 68, 0, 65)]),
  (68, [(2, 0, 0, 0, 68), (2, 0, 0, 0, 69), (17, 7, 17, 37, 70), (5, 1, 0, 0, 73), (32, 0, 0, 0, 74), (64, 186, 2, 211, 75), (48, 95, 81, 0, 78)]),
  (81, [(2, 0, 0, 0, 81), (17, 7, 9, 20, 82), (6, 7, 0, 0, 85), (40, 0, 0, 0, 87), (32, 0, 0, 0, 88), (5, 1, 0, 0, 89), (20, 0, 0, 0, 90), (33, 0, 0, 0, 91), (54, 2, 0, 0, 92)]),
  (95, [(2, 0, 0, 0, 95), (17, 7, 9, 20, 96), (6, 17, 0, 0, 99), (2, 0, 0, 0, 101), (17, 7, 17, 37, 102), (5, 2, 0, 0, 105), (32, 0, 0, 0, 106), (20, 0, 0, 0, 107), (40, 0, 0, 0, 108), (32, 0, 0, 0, 109), (5, 1, 0, 0, 110), (20, 0, 0, 0, 111), (33, 0, 0, 0, 112), (2, 0, 0, 0, 113), (39, 0, 0, 0, 114), (16, 7, 18, 214, 115), (5, 1, 0, 0, 118), (20, 0, 0, 0, 119), (18, 7, 18, 214, 120), (2, 0, 0, 0, 123), (64, 187, 1, 217, 124), (54, 2, 0, 0, 127)]),
  (130, [(69, 0, 0, 0, 130)])]
/-- CCModel.takesOut -/
def zb_184 : List (Nat × List zO) := [
  (0, [(7, 265, 0, 0, 0), (6, 13, 0, 0, 3), (0, 1, 0, 0, 5), (22, 0, 0, 0, 6), (20, 0, 0, 0, 7), (10, 2, 0, 0, 8), (5, 0, 0, 0, 9), (10, 3, 0, 0, 10), (55, 11, 0, 0, 11)]),
  (11, [(0, 3, 0, 0, 11), (6, 13, 0, 0, 12), (45, 37, 17, 0, 14)]),
  (17, [(2, 0, 0, 0, 17), (17, 7, 17, 37, 18), (0, 3, 0, 0, 21), (2, 0, 0, 0, 22), (17, 7, 9, 20, 23), (0, 2, 0, 0, 26), (0, 3, 0, 0, 27), (20, 0, 0, 0, 28), (32, 0, 0, 0, 29), (33, 0, 0, 0, 30), (15, 3, 1, 0, 31), (54, 11, 0, 0, 34)]),
  (37, [(0, 2, 0, 0, 37), (10, 3, 0, 0, 38), (55, 39, 0, 0, 39)]),
  (39, [(0, 3, 0, 0, 39), (6, 13, 0, 0, 40), (20, 0, 0, 0, 42), (7, 265, 0, 0, 43), (6, 13, 0, 0, 46), (2, 0, 0, 0, 48), (17, 7, 9, 20, 49), (6, 8, 0, 0, 52), (32, 0, 0, 0, 54), (22, 0, 0, 0, 55), (20, 0, 0, 0, 56), (45, 81, 60, 0, 57)]),
  (60, [(2, 0, 0, 0, 60), (17, 7, 9, 20, 61), (0, 3, 0, 0, 64), (2, 0, 0, 0, 65), (17, 7, 9, 20, 66), (0, 3, 0, 0, 69), (6, 13, 0, 0, 70), (20, 0, 0, 0, 72), (32, 0, 0, 0, 73), (33, 0, 0, 0, 74), (15, 3, 1, 0, 75), (54, 39, 0, 0, 78)]),
  (81, [(2, 0, 0, 0, 81), (17, 7, 9, 20, 82), (6, 8, 0, 0, 85), (40, 0, 0, 0, 87), (32, 0, 0, 0, 88), (5, 1, 0, 0, 89), (21, 0, 0, 0, 90), (33, 0, 0, 0, 91), (69, 0, 0, 0, 92)])]
/-- CCModel.isWhole -/
def zb_185 : List (Nat × List zO) := [
  (0, [(2, 0, 0, 0, 0), (17, 7, 9, 20, 1), (6, 25, 0, 0, 4), (0, 1, 0, 0, 6), (20, 0, 0, 0, 7), (32, 0, 0, 0, 8), (0, 2, 0, 0, 9), (63, 175, 2, 132, 10), (49, 20, 16, 0, 13)]),
  (16, [(5, 1, 0, 0, 16), (54, 21, 0, 0, 17)]),
  (20, [(5, 0, 0, 0, 20), (55, 21, 0, 0, 21)]),
  (21, [(72, 0, 0, 0, 21)])]
/-- CCModel.isDown -/
def zb_186 : List (Nat × List zO) := [
  (0, [(2, 0, 0, 0, 0), (17, 7, 9, 20, 1), (0, 1, 0, 0, 4), (5, 0, 0, 0, 5), (63, 155, 2, 167, 6), (32, 0, 0, 0, 9), (5, 2, 0, 0, 10), (43, 18, 14, 0, 11)]),
  (14, [(5, 1, 0, 0, 14), (54, 19, 0, 0, 15)]),
  (18, [(5, 0, 0, 0, 18), (55, 19, 0, 0, 19)]),
  (19, [(72, 0, 0, 0, 19)])]
/-- CCModel.handles -/
def zb_187 : List (Nat × List zO) := [
  (0, [(2, 0, 0, 0, 0), (17, 7, 17, 37, 1), (5, 1, 0, 0, 4), (32, 0, 0, 0, 5), (10, 1, 0, 0, 6), (2, 0, 0, 0, 7), (17, 7, 17, 37, 8), (5, 0, 0, 0, 11), (32, 0, 0, 0, 12), (10, 2, 0, 0, 13), (2, 0, 0, 0, 14), (17, 7, 17, 37, 15), (5, 4, 0, 0, 18), (32, 0, 0, 0, 19), (10, 3, 0, 0, 20), (2, 0, 0, 0, 21), (17, 7, 9, 20, 22), (0, 1, 0, 0, 25), (6, 6, 0, 0, 26), (63, 155, 2, 167, 28), (32, 0, 0, 0, 31), (11, 4, 0, 0, 32), (2, 0, 0, 0, 34), (17, 7, 9, 20, 35), (0, 1, 0, 0, 38), (5, 3, 0, 0, 39), (63, 155, 2, 167, 40), (32, 0, 0, 0, 43), (0, 3, 0, 0, 44), (43, 52, 48, 0, 45)]),
  (48, [(5, 1, 0, 0, 48), (54, 53, 0, 0, 49)]),
  (52, [(5, 0, 0, 0, 52), (55, 53, 0, 0, 53)]),
  (53, [(11, 5, 0, 0, 53), (2, 0, 0, 0, 55), (17, 7, 17, 37, 56), (5, 2, 0, 0, 59), (32, 0, 0, 0, 60), (56, 7, 0, 43, 61)]),
  (104, [(2, 0, 0, 0, 104), (0, 1, 0, 0, 105), (64, 188, 2, 190, 106), (48, 133, 112, 0, 109)]),
  (112, [(2, 0, 0, 0, 112), (0, 1, 0, 0, 113), (64, 189, 2, 193, 114), (48, 133, 120, 0, 117)]),
  (120, [(2, 0, 0, 0, 120), (0, 1, 0, 0, 121), (0, 2, 0, 0, 122), (5, 1, 0, 0, 123), (5, 4294967295, 0, 0, 124), (5, 4294967295, 0, 0, 125), (5, 4294967295, 0, 0, 126), (64, 190, 7, 183, 127), (54, 170, 0, 0, 130)]),
  (133, [(2, 0, 0, 0, 133), (0, 1, 0, 0, 134), (64, 188, 2, 190, 135), (48, 170, 141, 0, 138)]),
  (141, [(2, 0, 0, 0, 141), (17, 7, 9, 20, 142), (0, 1, 0, 0, 145), (5, 1, 0, 0, 146), (63, 155, 2, 167, 147), (32, 0, 0, 0, 150), (0, 2, 0, 0, 151), (43, 170, 155, 0, 152)]),
  (155, [(1, 5, 0, 0, 155), (48, 170, 160, 0, 157)]),
  (160, [(2, 0, 0, 0, 160), (0, 1, 0, 0, 161), (0, 2, 0, 0, 162), (5, 3, 0, 0, 163), (0, 3, 0, 0, 164), (5, 4294967295, 0, 0, 165), (5, 4294967295, 0, 0, 166), (64, 190, 7, 183, 167), (55, 170, 0, 0, 170)]),
  (170, [(69, 0, 0, 0, 170)]),
  (171, [(1, 4, 0, 0, 171), (5, 2, 0, 0, 173), (43, 193, 177, 0, 174)]),
  (177, [(2, 0, 0, 0, 177), (17, 7, 9, 20, 178), (0, 1, 0, 0, 181), (5, 5, 0, 0, 182), (63, 155, 2, 167, 183), (40, 0, 0, 0, 186), (32, 0, 0, 0, 187), (5, 1, 0, 0, 188), (0, 2, 0, 0, 189), (26, 0, 0, 0, 190), (24, 0, 0, 0, 191), (33, 0, 0, 0, 192), (55, 193, 0, 0, 193)]),
  (193, [(69, 0, 0, 0, 193)]),
  (194, [(2, 0, 0, 0, 194), (0, 1, 0, 0, 195), (64, 188, 2, 190, 196), (48, 245, 202, 0, 199)]),
  (202, [(2, 0, 0, 0, 202), (0, 1, 0, 0, 203), (64, 189, 2, 193, 204), (48, 245, 210, 0, 207)]),
  (210, [(1, 5, 0, 0, 210), (48, 245, 215, 0, 212)]),
  (215, [(2, 0, 0, 0, 215), (17, 7, 9, 20, 216), (0, 1, 0, 0, 219), (5, 4, 0, 0, 220), (63, 155, 2, 167, 221), (32, 0, 0, 0, 224), (0, 2, 0, 0, 225), (63, 175, 2, 132, 226), (48, 245, 232, 0, 229)]),
  (232, [(2, 0, 0, 0, 232), (0, 1, 0, 0, 233), (0, 2, 0, 0, 234), (5, 3, 0, 0, 235), (0, 3, 0, 0, 236), (5, 4294967295, 0, 0, 237), (5, 4294967295, 0, 0, 238), (64, 190, 7, 183, 239), (54, 255, 0, 0, 242)]),
  (245, [(2, 0, 0, 0, 245), (0, 1, 0, 0, 246), (0, 2, 0, 0, 247), (5, 4, 0, 0, 248), (5, 4294967295, 0, 0, 249), (5, 4294967295, 0, 0, 250), (5, 4294967295, 0, 0, 251), (64, 190, 7, 183, 252), (55, 255, 0, 0, 255)]),
  (255, [(69, 0, 0, 0, 255)]),
  (256, [(1, 4, 0, 0, 256), (5, 5, 0, 0, 258), (43, 293, 262, 0, 259)]),
  (262, [(2, 0, 0, 0, 262), (17, 7, 9, 20, 263), (0, 1, 0, 0, 266), (5, 1, 0, 0, 267), (63, 155, 2, 167, 268), (32, 0, 0, 0, 271), (0, 2, 0, 0, 272), (43, 293, 276, 0, 273)]),
  (276, [(1, 5, 0, 0, 276), (48, 293, 281, 0, 278)]),
  (281, [(2, 0, 0, 0, 281), (0, 1, 0, 0, 282), (5, 1, 0, 0, 283), (2, 0, 0, 0, 284), (17, 7, 9, 20, 285), (5, 2, 0, 0, 288), (32, 0, 0, 0, 289), (64, 158, 4, 179, 290), (55, 293, 0, 0, 293)]),
  (293, [(1, 4, 0, 0, 293), (5, 2, 0, 0, 295), (43, 321, 299, 0, 296)]),
  (299, [(1, 5, 0, 0, 299), (48, 321, 304, 0, 301)]),
  (304, [(2, 0, 0, 0, 304), (17, 7, 9, 20, 305), (0, 1, 0, 0, 308), (6, 20, 0, 0, 309), (63, 155, 2, 167, 311), (40, 0, 0, 0, 314), (32, 0, 0, 0, 315), (5, 1, 0, 0, 316), (0, 2, 0, 0, 317), (26, 0, 0, 0, 318), (24, 0, 0, 0, 319), (33, 0, 0, 0, 320), (55, 321, 0, 0, 321)]),
  (321, [(69, 0, 0, 0, 321)]),
  (322, [(1, 4, 0, 0, 322), (5, 5, 0, 0, 324), (43, 347, 328, 0, 325)]),
  (328, [(2, 0, 0, 0, 328), (17, 7, 9, 20, 329), (0, 1, 0, 0, 332), (5, 1, 0, 0, 333), (63, 155, 2, 167, 334), (32, 0, 0, 0, 337), (0, 2, 0, 0, 338), (43, 347, 342, 0, 339)]),
  (342, [(2, 0, 0, 0, 342), (0, 1, 0, 0, 343), (64, 153, 2, 164, 344), (55, 347, 0, 0, 347)]),
  (347, [(69, 0, 0, 0, 347)]),
  (348, [(2, 0, 0, 0, 348), (0, 1, 0, 0, 349), (2, 0, 0, 0, 350), (17, 7, 17, 37, 351), (5, 5, 0, 0, 354), (32, 0, 0, 0, 355), (0, 3, 0, 0, 356), (64, 191, 4, 199, 357), (69, 0, 0, 0, 360)]),
  (361, [(1, 4, 0, 0, 361), (5, 4, 0, 0, 363), (43, 372, 367, 0, 364)]),
  (367, [(1, 5, 0, 0, 367), (49, 373, 372, 0, 369)]),
  (372, [(69, 0, 0, 0, 372)]),
  (373, [(2, 0, 0, 0, 373), (17, 7, 9, 20, 374), (0, 1, 0, 0, 377), (5, 4, 0, 0, 378), (63, 155, 2, 167, 379), (40, 0, 0, 0, 382), (32, 0, 0, 0, 383), (5, 1, 0, 0, 384), (0, 2, 0, 0, 385), (26, 0, 0, 0, 386), (24, 0, 0, 0, 387), (33, 0, 0, 0, 388), (2, 0, 0, 0, 389), (0, 1, 0, 0, 390), (64, 193, 2, 202, 391), (69, 0, 0, 0, 394)]),
  (395, [(1, 4, 0, 0, 395), (6, 6, 0, 0, 397), (43, 407, 402, 0, 399)]),
  (402, [(1, 5, 0, 0, 402), (49, 408, 407, 0, 404)]),
  (407, [(69, 0, 0, 0, 407)]),
  (408, [(2, 0, 0, 0, 408), (17, 7, 9, 20, 409), (0, 1, 0, 0, 412), (6, 27, 0, 0, 413), (63, 155, 2, 167, 415), (40, 0, 0, 0, 418), (32, 0, 0, 0, 419), (5, 1, 0, 0, 420), (20, 0, 0, 0, 421), (33, 0, 0, 0, 422), (2, 0, 0, 0, 423), (17, 7, 9, 20, 424), (0, 1, 0, 0, 427), (5, 4, 0, 0, 428), (63, 155, 2, 167, 429), (2, 0, 0, 0, 432), (17, 7, 17, 37, 433), (6, 6, 0, 0, 436), (32, 0, 0, 0, 438), (33, 0, 0, 0, 439), (2, 0, 0, 0, 440), (0, 1, 0, 0, 441), (64, 193, 2, 202, 442), (2, 0, 0, 0, 445), (17, 7, 9, 20, 446), (0, 1, 0, 0, 449), (5, 0, 0, 0, 450), (63, 155, 2, 167, 451), (5, 0, 0, 0, 454), (33, 0, 0, 0, 455), (2, 0, 0, 0, 456), (0, 1, 0, 0, 457), (5, 1, 0, 0, 458), (2, 0, 0, 0, 459), (17, 7, 9, 20, 460), (5, 2, 0, 0, 463), (32, 0, 0, 0, 464), (64, 158, 4, 179, 465), (69, 0, 0, 0, 468)])]
/-- CCModel.isNormal -/
def zb_188 : List (Nat × List zO) := [
  (0, [(2, 0, 0, 0, 0), (17, 7, 9, 20, 1), (0, 1, 0, 0, 4), (5, 0, 0, 0, 5), (63, 155, 2, 167, 6), (32, 0, 0, 0, 9), (49, 17, 13, 0, 10)]),
  (13, [(5, 1, 0, 0, 13), (54, 18, 0, 0, 14)]),
  (17, [(5, 0, 0, 0, 17), (55, 18, 0, 0, 18)]),
  (18, [(72, 0, 0, 0, 18)])]
/-- CCModel.isChief -/
def zb_189 : List (Nat × List zO) := [
  (0, [(2, 0, 0, 0, 0), (17, 7, 9, 20, 1), (0, 1, 0, 0, 4), (5, 1, 0, 0, 5), (63, 155, 2, 167, 6), (32, 0, 0, 0, 9), (0, 1, 0, 0, 10), (43, 18, 14, 0, 11)]),
  (14, [(5, 1, 0, 0, 14), (54, 19, 0, 0, 15)]),
  (18, [(5, 0, 0, 0, 18), (55, 19, 0, 0, 19)]),
  (19, [(72, 0, 0, 0, 19)])]
/-- CCModel.sends -/
def zb_190 : List (Nat × List zO) := [
  (0, [(2, 0, 0, 0, 0), (17, 7, 9, 20, 1), (6, 9, 0, 0, 4), (0, 3, 0, 0, 6), (20, 0, 0, 0, 7), (40, 0, 0, 0, 8), (32, 0, 0, 0, 9), (5, 1, 0, 0, 10), (20, 0, 0, 0, 11), (33, 0, 0, 0, 12), (2, 0, 0, 0, 13), (17, 7, 9, 20, 14), (6, 8, 0, 0, 17), (32, 0, 0, 0, 19), (7, 300, 0, 0, 20), (43, 38, 26, 0, 23)]),
  (26, [(2, 0, 0, 0, 26), (17, 7, 9, 20, 27), (6, 7, 0, 0, 30), (40, 0, 0, 0, 32), (32, 0, 0, 0, 33), (5, 1, 0, 0, 34), (20, 0, 0, 0, 35), (33, 0, 0, 0, 36), (69, 0, 0, 0, 37)]),
  (38, [(7, 265, 0, 0, 38), (6, 13, 0, 0, 41), (2, 0, 0, 0, 43), (17, 7, 9, 20, 44), (6, 8, 0, 0, 47), (32, 0, 0, 0, 49), (22, 0, 0, 0, 50), (20, 0, 0, 0, 51), (11, 7, 0, 0, 52), (2, 0, 0, 0, 54), (17, 7, 9, 20, 55), (1, 7, 0, 0, 58), (5, 0, 0, 0, 60), (20, 0, 0, 0, 61), (0, 1, 0, 0, 62), (33, 0, 0, 0, 63), (2, 0, 0, 0, 64), (17, 7, 9, 20, 65), (1, 7, 0, 0, 68), (5, 1, 0, 0, 70), (20, 0, 0, 0, 71), (0, 2, 0, 0, 72), (33, 0, 0, 0, 73), (2, 0, 0, 0, 74), (17, 7, 9, 20, 75), (1, 7, 0, 0, 78), (5, 2, 0, 0, 80), (20, 0, 0, 0, 81), (0, 3, 0, 0, 82), (33, 0, 0, 0, 83), (2, 0, 0, 0, 84), (17, 7, 9, 20, 85), (1, 7, 0, 0, 88), (5, 3, 0, 0, 90), (20, 0, 0, 0, 91), (2, 0, 0, 0, 92), (17, 7, 9, 20, 93), (6, 6, 0, 0, 96), (32, 0, 0, 0, 98), (2, 0, 0, 0, 99), (17, 7, 9, 20, 100), (5, 5, 0, 0, 103), (32, 0, 0, 0, 104), (20, 0, 0, 0, 105), (33, 0, 0, 0, 106), (2, 0, 0, 0, 107), (17, 7, 9, 20, 108), (1, 7, 0, 0, 111), (5, 4, 0, 0, 113), (20, 0, 0, 0, 114), (1, 4, 0, 0, 115), (33, 0, 0, 0, 117), (2, 0, 0, 0, 118), (17, 7, 9, 20, 119), (1, 7, 0, 0, 122), (5, 5, 0, 0, 124), (20, 0, 0, 0, 125), (1, 5, 0, 0, 126), (33, 0, 0, 0, 128), (2, 0, 0, 0, 129), (17, 7, 9, 20, 130), (1, 7, 0, 0, 133), (6, 6, 0, 0, 135), (20, 0, 0, 0, 137), (1, 6, 0, 0, 138), (33, 0, 0, 0, 140), (5, 0, 0, 0, 141), (11, 8, 0, 0, 142), (55, 144, 0, 0, 144)]),
  (144, [(1, 8, 0, 0, 144), (6, 6, 0, 0, 146), (45, 184, 151, 0, 148)]),
  (151, [(2, 0, 0, 0, 151), (17, 7, 9, 20, 152), (1, 7, 0, 0, 155), (6, 7, 0, 0, 157), (20, 0, 0, 0, 159), (1, 8, 0, 0, 160), (20, 0, 0, 0, 162), (2, 0, 0, 0, 163), (17, 7, 9, 20, 164), (0, 1, 0, 0, 167), (6, 8, 0, 0, 168), (1, 8, 0, 0, 170), (20, 0, 0, 0, 172), (63, 155, 2, 167, 173), (32, 0, 0, 0, 176), (33, 0, 0, 0, 177), (15, 8, 1, 0, 178), (54, 144, 0, 0, 181)]),
  (184, [(2, 0, 0, 0, 184), (17, 7, 9, 20, 185), (6, 8, 0, 0, 188), (40, 0, 0, 0, 190), (32, 0, 0, 0, 191), (5, 1, 0, 0, 192), (20, 0, 0, 0, 193), (33, 0, 0, 0, 194), (69, 0, 0, 0, 195)])]
/-- CCModel.invited -/
def zb_191 : List (Nat × List zO) := [
  (0, [(2, 0, 0, 0, 0), (0, 1, 0, 0, 1), (64, 188, 2, 190, 2), (48, 13, 8, 0, 5)]),
  (8, [(0, 1, 0, 0, 8), (0, 2, 0, 0, 9), (43, 14, 13, 0, 10)]),
  (13, [(69, 0, 0, 0, 13)]),
  (14, [(2, 0, 0, 0, 14), (0, 1, 0, 0, 15), (64, 189, 2, 193, 16), (48, 47, 22, 0, 19)]),
  (22, [(2, 0, 0, 0, 22), (0, 1, 0, 0, 23), (2, 0, 0, 0, 24), (17, 7, 9, 20, 25), (0, 1, 0, 0, 28), (5, 4, 0, 0, 29), (63, 155, 2, 167, 30), (32, 0, 0, 0, 33), (5, 1, 0, 0, 34), (0, 2, 0, 0, 35), (26, 0, 0, 0, 36), (5, 4294967295, 0, 0, 37), (25, 0, 0, 0, 38), (23, 0, 0, 0, 39), (5, 5, 0, 0, 40), (0, 3, 0, 0, 41), (0, 2, 0, 0, 42), (5, 4294967295, 0, 0, 43), (64, 192, 7, 196, 44), (55, 47, 0, 0, 47)]),
  (47, [(2, 0, 0, 0, 47), (17, 7, 9, 20, 48), (0, 1, 0, 0, 51), (5, 0, 0, 0, 52), (63, 155, 2, 167, 53), (5, 1, 0, 0, 56), (33, 0, 0, 0, 57), (2, 0, 0, 0, 58), (17, 7, 9, 20, 59), (0, 1, 0, 0, 62), (5, 1, 0, 0, 63), (63, 155, 2, 167, 64), (0, 2, 0, 0, 67), (33, 0, 0, 0, 68), (2, 0, 0, 0, 69), (0, 1, 0, 0, 70), (0, 3, 0, 0, 71), (64, 156, 3, 170, 72), (2, 0, 0, 0, 75), (17, 7, 9, 20, 76), (0, 1, 0, 0, 79), (6, 26, 0, 0, 80), (63, 155, 2, 167, 82), (40, 0, 0, 0, 85), (32, 0, 0, 0, 86), (5, 1, 0, 0, 87), (20, 0, 0, 0, 88), (33, 0, 0, 0, 89), (2, 0, 0, 0, 90), (17, 7, 9, 20, 91), (0, 1, 0, 0, 94), (5, 4, 0, 0, 95), (63, 155, 2, 167, 96), (5, 1, 0, 0, 99), (0, 1, 0, 0, 100), (26, 0, 0, 0, 101), (33, 0, 0, 0, 102), (2, 0, 0, 0, 103), (0, 1, 0, 0, 104), (64, 157, 2, 173, 105), (2, 0, 0, 0, 108), (0, 1, 0, 0, 109), (0, 2, 0, 0, 110), (6, 6, 0, 0, 111), (0, 3, 0, 0, 113), (5, 4294967295, 0, 0, 114), (5, 4294967295, 0, 0, 115), (64, 190, 7, 183, 116), (2, 0, 0, 0, 119), (0, 1, 0, 0, 120), (6, 6, 0, 0, 121), (5, 3, 0, 0, 123), (2, 0, 0, 0, 124), (17, 7, 9, 20, 125), (5, 3, 0, 0, 128), (32, 0, 0, 0, 129), (22, 0, 0, 0, 130), (64, 158, 4, 179, 131), (69, 0, 0, 0, 134)])]
/-- CCModel.sendsAll -/
def zb_192 : List (Nat × List zO) := [
  (0, [(5, 0, 0, 0, 0), (11, 7, 0, 0, 1), (55, 3, 0, 0, 3)]),
  (3, [(1, 7, 0, 0, 3), (2, 0, 0, 0, 5), (17, 7, 9, 20, 6), (5, 0, 0, 0, 9), (32, 0, 0, 0, 10), (45, 49, 14, 0, 11)]),
  (14, [(1, 7, 0, 0, 14), (0, 1, 0, 0, 16), (42, 43, 20, 0, 17)]),
  (20, [(0, 2, 0, 0, 20), (1, 7, 0, 0, 21), (63, 175, 2, 132, 23), (48, 43, 29, 0, 26)]),
  (29, [(2, 0, 0, 0, 29), (0, 1, 0, 0, 30), (1, 7, 0, 0, 31), (0, 3, 0, 0, 33), (1, 4, 0, 0, 34), (1, 5, 0, 0, 36), (1, 6, 0, 0, 38), (64, 190, 7, 183, 40), (55, 43, 0, 0, 43)]),
  (43, [(15, 7, 1, 0, 43), (54, 3, 0, 0, 46)]),
  (49, [(69, 0, 0, 0, 49)])]
/-- CCModel.learns -/
def zb_193 : List (Nat × List zO) := [
  (0, [(5, 0, 0, 0, 0), (10, 2, 0, 0, 1), (55, 2, 0, 0, 2)]),
  (2, [(0, 2, 0, 0, 2), (6, 6, 0, 0, 3), (45, 52, 8, 0, 5)]),
  (8, [(2, 0, 0, 0, 8), (17, 7, 9, 20, 9), (0, 1, 0, 0, 12), (6, 8, 0, 0, 13), (0, 2, 0, 0, 15), (20, 0, 0, 0, 16), (63, 155, 2, 167, 17), (2, 0, 0, 0, 20), (17, 7, 9, 20, 21), (0, 1, 0, 0, 24), (6, 8, 0, 0, 25), (0, 2, 0, 0, 27), (20, 0, 0, 0, 28), (63, 155, 2, 167, 29), (32, 0, 0, 0, 32), (2, 0, 0, 0, 33), (17, 7, 17, 37, 34), (6, 7, 0, 0, 37), (0, 2, 0, 0, 39), (20, 0, 0, 0, 40), (32, 0, 0, 0, 41), (63, 194, 2, 187, 42), (33, 0, 0, 0, 45), (15, 2, 1, 0, 46), (54, 2, 0, 0, 49)]),
  (52, [(69, 0, 0, 0, 52)])]
/-- CCModel.more -/
def zb_194 : List (Nat × List zO) := [
  (0, [(0, 0, 0, 0, 0), (0, 1, 0, 0, 1), (47, 9, 5, 0, 2)]),
  (5, [(0, 0, 0, 0, 5), (54, 10, 0, 0, 6)]),
  (9, [(0, 1, 0, 0, 9), (55, 10, 0, 0, 10)]),
  (10, [(70, 0, 0, 0, 10)])]
/-- CCModel.rings -/
def zb_195 : List (Nat × List zO) := [
  (0, [(2, 0, 0, 0, 0), (17, 7, 9, 20, 1), (0, 1, 0, 0, 4), (6, 6, 0, 0, 5), (63, 155, 2, 167, 7), (32, 0, 0, 0, 10), (56, 8, 0, 29, 11)]),
  (40, [(2, 0, 0, 0, 40), (0, 1, 0, 0, 41), (64, 189, 2, 193, 42), (48, 96, 48, 0, 45)]),
  (48, [(2, 0, 0, 0, 48), (0, 1, 0, 0, 49), (64, 157, 2, 173, 50), (2, 0, 0, 0, 53), (0, 1, 0, 0, 54), (5, 1, 0, 0, 55), (2, 0, 0, 0, 56), (17, 7, 9, 20, 57), (5, 0, 0, 0, 60), (32, 0, 0, 0, 61), (26, 0, 0, 0, 62), (5, 1, 0, 0, 63), (21, 0, 0, 0, 64), (5, 0, 0, 0, 65), (2, 0, 0, 0, 66), (17, 7, 9, 20, 67), (0, 1, 0, 0, 70), (5, 3, 0, 0, 71), (63, 155, 2, 167, 72), (32, 0, 0, 0, 75), (5, 4294967295, 0, 0, 76), (5, 4294967295, 0, 0, 77), (64, 192, 7, 196, 78), (2, 0, 0, 0, 81), (0, 1, 0, 0, 82), (5, 2, 0, 0, 83), (2, 0, 0, 0, 84), (17, 7, 9, 20, 85), (5, 3, 0, 0, 88), (32, 0, 0, 0, 89), (64, 158, 4, 179, 90), (54, 136, 0, 0, 93)]),
  (96, [(2, 0, 0, 0, 96), (0, 1, 0, 0, 97), (2, 0, 0, 0, 98), (17, 7, 9, 20, 99), (0, 1, 0, 0, 102), (5, 1, 0, 0, 103), (63, 155, 2, 167, 104), (32, 0, 0, 0, 107), (5, 2, 0, 0, 108), (2, 0, 0, 0, 109), (17, 7, 9, 20, 110), (0, 1, 0, 0, 113), (5, 3, 0, 0, 114), (63, 155, 2, 167, 115), (32, 0, 0, 0, 118), (5, 4294967295, 0, 0, 119), (5, 4294967295, 0, 0, 120), (64, 190, 7, 183, 121), (2, 0, 0, 0, 124), (0, 1, 0, 0, 125), (5, 5, 0, 0, 126), (2, 0, 0, 0, 127), (17, 7, 9, 20, 128), (5, 3, 0, 0, 131), (32, 0, 0, 0, 132), (64, 158, 4, 179, 133), (55, 136, 0, 0, 136)]),
  (136, [(69, 0, 0, 0, 136)]),
  (137, [(2, 0, 0, 0, 137), (17, 7, 9, 20, 138), (0, 1, 0, 0, 141), (5, 5, 0, 0, 142), (63, 155, 2, 167, 143), (32, 0, 0, 0, 146), (49, 196, 150, 0, 147)]),
  (150, [(2, 0, 0, 0, 150), (17, 7, 9, 20, 151), (0, 1, 0, 0, 154), (5, 4, 0, 0, 155), (63, 155, 2, 167, 156), (32, 0, 0, 0, 159), (2, 0, 0, 0, 160), (17, 7, 9, 20, 161), (0, 1, 0, 0, 164), (6, 20, 0, 0, 165), (63, 155, 2, 167, 167), (32, 0, 0, 0, 170), (5, 4294967295, 0, 0, 171), (25, 0, 0, 0, 172), (23, 0, 0, 0, 173), (5, 1, 0, 0, 174), (0, 1, 0, 0, 175), (26, 0, 0, 0, 176), (5, 4294967295, 0, 0, 177), (25, 0, 0, 0, 178), (23, 0, 0, 0, 179), (49, 196, 183, 0, 180)]),
  (183, [(2, 0, 0, 0, 183), (0, 1, 0, 0, 184), (5, 1, 0, 0, 185), (2, 0, 0, 0, 186), (17, 7, 9, 20, 187), (5, 2, 0, 0, 190), (32, 0, 0, 0, 191), (64, 158, 4, 179, 192), (69, 0, 0, 0, 195)]),
  (196, [(2, 0, 0, 0, 196), (0, 1, 0, 0, 197), (2, 0, 0, 0, 198), (17, 7, 9, 20, 199), (0, 1, 0, 0, 202), (5, 5, 0, 0, 203), (63, 155, 2, 167, 204), (32, 0, 0, 0, 207), (64, 196, 3, 220, 208), (2, 0, 0, 0, 211), (17, 7, 9, 20, 212), (5, 4, 0, 0, 215), (32, 0, 0, 0, 216), (22, 0, 0, 0, 217), (10, 2, 0, 0, 218), (0, 2, 0, 0, 219), (49, 231, 223, 0, 220)]),
  (223, [(2, 0, 0, 0, 223), (0, 1, 0, 0, 224), (64, 197, 2, 223, 225), (54, 238, 0, 0, 228)]),
  (231, [(2, 0, 0, 0, 231), (0, 1, 0, 0, 232), (5, 3, 0, 0, 233), (0, 2, 0, 0, 234), (64, 158, 4, 179, 235), (55, 238, 0, 0, 238)]),
  (238, [(69, 0, 0, 0, 238)]),
  (239, [(2, 0, 0, 0, 239), (0, 1, 0, 0, 240), (64, 197, 2, 223, 241), (69, 0, 0, 0, 244)]),
  (245, [(2, 0, 0, 0, 245), (17, 7, 9, 20, 246), (0, 1, 0, 0, 249), (5, 0, 0, 0, 250), (63, 155, 2, 167, 251), (5, 0, 0, 0, 254), (33, 0, 0, 0, 255), (2, 0, 0, 0, 256), (0, 1, 0, 0, 257), (2, 0, 0, 0, 258), (17, 7, 9, 20, 259), (0, 1, 0, 0, 262), (5, 4, 0, 0, 263), (63, 155, 2, 167, 264), (32, 0, 0, 0, 267), (6, 7, 0, 0, 268), (2, 0, 0, 0, 270), (17, 7, 9, 20, 271), (0, 1, 0, 0, 274), (5, 3, 0, 0, 275), (63, 155, 2, 167, 276), (32, 0, 0, 0, 279), (5, 4294967295, 0, 0, 280), (2, 0, 0, 0, 281), (17, 7, 9, 20, 282), (0, 1, 0, 0, 285), (5, 4, 0, 0, 286), (63, 155, 2, 167, 287), (32, 0, 0, 0, 290), (64, 192, 7, 196, 291), (2, 0, 0, 0, 294), (0, 1, 0, 0, 295), (5, 1, 0, 0, 296), (2, 0, 0, 0, 297), (17, 7, 9, 20, 298), (5, 2, 0, 0, 301), (32, 0, 0, 0, 302), (64, 158, 4, 179, 303), (69, 0, 0, 0, 306)]),
  (307, [(2, 0, 0, 0, 307), (0, 1, 0, 0, 308), (64, 153, 2, 164, 309), (69, 0, 0, 0, 312)])]
/-- CCModel.greaterOf -/
def zb_196 : List (Nat × List zO) := [
  (0, [(5, 0, 0, 0, 0), (10, 3, 0, 0, 1), (5, 0, 0, 0, 2), (11, 4, 0, 0, 3), (55, 5, 0, 0, 5)]),
  (5, [(1, 4, 0, 0, 5), (2, 0, 0, 0, 7), (17, 7, 9, 20, 8), (5, 0, 0, 0, 11), (32, 0, 0, 0, 12), (45, 61, 16, 0, 13)]),
  (16, [(0, 3, 0, 0, 16), (0, 2, 0, 0, 17), (1, 4, 0, 0, 18), (63, 175, 2, 132, 20), (48, 52, 26, 0, 23)]),
  (26, [(2, 0, 0, 0, 26), (17, 7, 9, 20, 27), (6, 33, 0, 0, 30), (1, 4, 0, 0, 32), (20, 0, 0, 0, 34), (32, 0, 0, 0, 35), (2, 0, 0, 0, 36), (17, 7, 9, 20, 37), (6, 33, 0, 0, 40), (0, 1, 0, 0, 42), (20, 0, 0, 0, 43), (32, 0, 0, 0, 44), (47, 52, 48, 0, 45)]),
  (48, [(5, 1, 0, 0, 48), (54, 53, 0, 0, 49)]),
  (52, [(5, 0, 0, 0, 52), (55, 53, 0, 0, 53)]),
  (53, [(20, 0, 0, 0, 53), (10, 3, 0, 0, 54), (15, 4, 1, 0, 55), (54, 5, 0, 0, 58)]),
  (61, [(0, 3, 0, 0, 61), (70, 0, 0, 0, 62)])]
/-- CCModel.merges -/
def zb_197 : List (Nat × List zO) := [
  (0, [(2, 0, 0, 0, 0), (17, 7, 9, 20, 1), (0, 1, 0, 0, 4), (5, 5, 0, 0, 5), (63, 155, 2, 167, 6), (32, 0, 0, 0, 9), (2, 0, 0, 0, 10), (17, 7, 9, 20, 11), (0, 1, 0, 0, 14), (5, 4, 0, 0, 15), (63, 155, 2, 167, 16), (32, 0, 0, 0, 19), (24, 0, 0, 0, 20), (5, 1, 0, 0, 21), (0, 1, 0, 0, 22), (26, 0, 0, 0, 23), (5, 4294967295, 0, 0, 24), (25, 0, 0, 0, 25), (23, 0, 0, 0, 26), (10, 2, 0, 0, 27), (2, 0, 0, 0, 28), (0, 1, 0, 0, 29), (64, 154, 2, 176, 30), (2, 0, 0, 0, 33), (17, 7, 9, 20, 34), (0, 1, 0, 0, 37), (6, 25, 0, 0, 38), (63, 155, 2, 167, 40), (40, 0, 0, 0, 43), (32, 0, 0, 0, 44), (5, 1, 0, 0, 45), (20, 0, 0, 0, 46), (33, 0, 0, 0, 47), (2, 0, 0, 0, 48), (17, 7, 9, 20, 49), (0, 1, 0, 0, 52), (5, 0, 0, 0, 53), (63, 155, 2, 167, 54), (5, 1, 0, 0, 57), (33, 0, 0, 0, 58), (2, 0, 0, 0, 59), (0, 1, 0, 0, 60), (0, 2, 0, 0, 61), (5, 5, 0, 0, 62), (2, 0, 0, 0, 63), (17, 7, 9, 20, 64), (0, 1, 0, 0, 67), (5, 3, 0, 0, 68), (63, 155, 2, 167, 69), (32, 0, 0, 0, 72), (0, 1, 0, 0, 73), (5, 4294967295, 0, 0, 74), (64, 192, 7, 196, 75), (2, 0, 0, 0, 78), (0, 1, 0, 0, 79), (5, 4, 0, 0, 80), (5, 2, 0, 0, 81), (2, 0, 0, 0, 82), (17, 7, 9, 20, 83), (5, 3, 0, 0, 86), (32, 0, 0, 0, 87), (22, 0, 0, 0, 88), (64, 158, 4, 179, 89), (69, 0, 0, 0, 92)])]
/-- CCModel.works -/
def zb_198 : List (Nat × List zO) := [
  (0, [(2, 0, 0, 0, 0), (0, 1, 0, 0, 1), (64, 199, 2, 229, 2), (10, 2, 0, 0, 5), (5, 4294967295, 0, 0, 6), (10, 3, 0, 0, 7), (5, 0, 0, 0, 8), (11, 4, 0, 0, 9), (55, 11, 0, 0, 11)]),
  (11, [(1, 4, 0, 0, 11), (2, 0, 0, 0, 13), (17, 7, 9, 20, 14), (5, 1, 0, 0, 17), (32, 0, 0, 0, 18), (45, 75, 22, 0, 19)]),
  (22, [(0, 2, 0, 0, 22), (1, 4, 0, 0, 23), (63, 175, 2, 132, 25), (48, 69, 31, 0, 28)]),
  (31, [(0, 3, 0, 0, 31), (5, 4294967295, 0, 0, 32), (42, 66, 36, 0, 33)]),
  (36, [(2, 0, 0, 0, 36), (17, 7, 9, 20, 37), (0, 1, 0, 0, 40), (6, 8, 0, 0, 41), (1, 4, 0, 0, 43), (20, 0, 0, 0, 45), (63, 155, 2, 167, 46), (32, 0, 0, 0, 49), (2, 0, 0, 0, 50), (17, 7, 9, 20, 51), (0, 1, 0, 0, 54), (6, 8, 0, 0, 55), (0, 3, 0, 0, 57), (20, 0, 0, 0, 58), (63, 155, 2, 167, 59), (32, 0, 0, 0, 62), (45, 69, 66, 0, 63)]),
  (66, [(1, 4, 0, 0, 66), (10, 3, 0, 0, 68), (55, 69, 0, 0, 69)]),
  (69, [(15, 4, 1, 0, 69), (54, 11, 0, 0, 72)]),
  (75, [(0, 3, 0, 0, 75), (5, 4294967295, 0, 0, 76), (43, 81, 80, 0, 77)]),
  (80, [(69, 0, 0, 0, 80)]),
  (81, [(2, 0, 0, 0, 81), (17, 7, 9, 20, 82), (0, 1, 0, 0, 85), (6, 8, 0, 0, 86), (0, 3, 0, 0, 88), (20, 0, 0, 0, 89), (63, 155, 2, 167, 90), (40, 0, 0, 0, 93), (32, 0, 0, 0, 94), (5, 1, 0, 0, 95), (20, 0, 0, 0, 96), (33, 0, 0, 0, 97), (2, 0, 0, 0, 98), (17, 7, 9, 20, 99), (0, 1, 0, 0, 102), (6, 14, 0, 0, 103), (0, 3, 0, 0, 105), (20, 0, 0, 0, 106), (63, 155, 2, 167, 107), (40, 0, 0, 0, 110), (32, 0, 0, 0, 111), (5, 1, 0, 0, 112), (20, 0, 0, 0, 113), (33, 0, 0, 0, 114), (69, 0, 0, 0, 115)])]
/-- CCModel.partOf -/
def zb_199 : List (Nat × List zO) := [
  (0, [(2, 0, 0, 0, 0), (17, 7, 9, 20, 1), (0, 1, 0, 0, 4), (5, 4, 0, 0, 5), (63, 155, 2, 167, 6), (32, 0, 0, 0, 9), (10, 2, 0, 0, 10), (5, 0, 0, 0, 11), (10, 3, 0, 0, 12), (2, 0, 0, 0, 13), (0, 1, 0, 0, 14), (64, 188, 2, 190, 15), (48, 29, 21, 0, 18)]),
  (21, [(0, 2, 0, 0, 21), (0, 1, 0, 0, 22), (63, 175, 2, 132, 23), (49, 31, 29, 0, 26)]),
  (29, [(5, 0, 0, 0, 29), (70, 0, 0, 0, 30)]),
  (31, [(2, 0, 0, 0, 31), (0, 1, 0, 0, 32), (0, 2, 0, 0, 33), (64, 196, 3, 220, 34), (11, 4, 0, 0, 37), (55, 39, 0, 0, 39)]),
  (39, [(1, 4, 0, 0, 39), (2, 0, 0, 0, 41), (17, 7, 9, 20, 42), (5, 1, 0, 0, 45), (32, 0, 0, 0, 46), (45, 69, 50, 0, 47)]),
  (50, [(0, 3, 0, 0, 50), (5, 1, 0, 0, 51), (1, 4, 0, 0, 52), (26, 0, 0, 0, 54), (24, 0, 0, 0, 55), (10, 3, 0, 0, 56), (1, 4, 0, 0, 57), (0, 2, 0, 0, 59), (63, 200, 1, 226, 60), (20, 0, 0, 0, 63), (11, 4, 0, 0, 64), (54, 39, 0, 0, 66)]),
  (69, [(0, 3, 0, 0, 69), (70, 0, 0, 0, 70)])]
/-- CCModel.ones -/
def zb_200 : List (Nat × List zO) := [
  (0, [(5, 0, 0, 0, 0), (10, 1, 0, 0, 1), (0, 0, 0, 0, 2), (10, 2, 0, 0, 3), (55, 4, 0, 0, 4)]),
  (4, [(0, 2, 0, 0, 4), (48, 20, 8, 0, 5)]),
  (8, [(15, 1, 1, 0, 8), (0, 2, 0, 0, 11), (0, 2, 0, 0, 12), (5, 1, 0, 0, 13), (21, 0, 0, 0, 14), (23, 0, 0, 0, 15), (10, 2, 0, 0, 16), (54, 4, 0, 0, 17)]),
  (20, [(0, 1, 0, 0, 20), (70, 0, 0, 0, 21)])]
/-- CCModel.cut -/
def zb_201 : List (Nat × List zO) := [
  (0, [(2, 0, 0, 0, 0), (5, 0, 0, 0, 1), (18, 7, 0, 48, 2), (2, 0, 0, 0, 5), (2, 0, 0, 0, 6), (0, 1, 0, 0, 7), (64, 202, 2, 250, 8), (49, 18, 14, 0, 11)]),
  (14, [(5, 1, 0, 0, 14), (54, 19, 0, 0, 15)]),
  (18, [(5, 0, 0, 0, 18), (55, 19, 0, 0, 19)]),
  (19, [(5, 1, 0, 0, 19), (5, 1, 0, 0, 20), (64, 163, 4, 148, 21), (48, 29, 27, 0, 24)]),
  (27, [(5, 0, 0, 0, 27), (70, 0, 0, 0, 28)]),
  (29, [(2, 0, 0, 0, 29), (64, 180, 1, 244, 30), (2, 0, 0, 0, 33), (0, 1, 0, 0, 34), (64, 203, 2, 253, 35), (70, 0, 0, 0, 38)])]
/-- CCModel.isSet -/
def zb_202 : List (Nat × List zO) := [
  (0, [(0, 1, 0, 0, 0), (5, 0, 0, 0, 1), (5, 1, 0, 0, 2), (2, 0, 0, 0, 3), (17, 7, 9, 20, 4), (5, 0, 0, 0, 7), (32, 0, 0, 0, 8), (26, 0, 0, 0, 9), (5, 1, 0, 0, 10), (21, 0, 0, 0, 11), (63, 162, 3, 94, 12), (72, 0, 0, 0, 15)])]
/-- CCModel.cuts -/
def zb_203 : List (Nat × List zO) := [
  (0, [(5, 0, 0, 0, 0), (10, 2, 0, 0, 1), (5, 0, 0, 0, 2), (10, 3, 0, 0, 3), (55, 4, 0, 0, 4)]),
  (4, [(0, 3, 0, 0, 4), (2, 0, 0, 0, 5), (17, 7, 9, 20, 6), (5, 0, 0, 0, 9), (32, 0, 0, 0, 10), (45, 104, 14, 0, 11)]),
  (14, [(0, 3, 0, 0, 14), (5, 1, 0, 0, 15), (20, 0, 0, 0, 16), (11, 4, 0, 0, 17), (55, 19, 0, 0, 19)]),
  (19, [(1, 4, 0, 0, 19), (2, 0, 0, 0, 21), (17, 7, 9, 20, 22), (5, 0, 0, 0, 25), (32, 0, 0, 0, 26), (45, 98, 30, 0, 27)]),
  (30, [(0, 1, 0, 0, 30), (0, 3, 0, 0, 31), (63, 175, 2, 132, 32), (0, 1, 0, 0, 35), (1, 4, 0, 0, 36), (63, 175, 2, 132, 38), (42, 92, 44, 0, 41)]),
  (44, [(2, 0, 0, 0, 44), (0, 3, 0, 0, 45), (1, 4, 0, 0, 46), (64, 185, 3, 208, 48), (49, 57, 54, 0, 51)]),
  (54, [(54, 92, 0, 0, 54)]),
  (57, [(2, 0, 0, 0, 57), (17, 7, 9, 20, 58), (6, 25, 0, 0, 61), (0, 3, 0, 0, 63), (20, 0, 0, 0, 64), (40, 0, 0, 0, 65), (32, 0, 0, 0, 66), (5, 1, 0, 0, 67), (1, 4, 0, 0, 68), (26, 0, 0, 0, 70), (24, 0, 0, 0, 71), (33, 0, 0, 0, 72), (2, 0, 0, 0, 73), (17, 7, 9, 20, 74), (6, 25, 0, 0, 77), (1, 4, 0, 0, 79), (20, 0, 0, 0, 81), (40, 0, 0, 0, 82), (32, 0, 0, 0, 83), (5, 1, 0, 0, 84), (0, 3, 0, 0, 85), (26, 0, 0, 0, 86), (24, 0, 0, 0, 87), (33, 0, 0, 0, 88), (15, 2, 1, 0, 89), (55, 92, 0, 0, 92)]),
  (92, [(15, 4, 1, 0, 92), (54, 19, 0, 0, 95)]),
  (98, [(15, 3, 1, 0, 98), (54, 4, 0, 0, 101)]),
  (104, [(0, 2, 0, 0, 104), (70, 0, 0, 0, 105)])]
/-- CCModel.heal -/
def zb_204 : List (Nat × List zO) := [
  (0, [(2, 0, 0, 0, 0), (5, 0, 0, 0, 1), (18, 7, 0, 48, 2), (2, 0, 0, 0, 5), (64, 180, 1, 244, 6), (2, 0, 0, 0, 9), (64, 205, 1, 256, 10), (70, 0, 0, 0, 13)])]
/-- CCModel.heals -/
def zb_205 : List (Nat × List zO) := [
  (0, [(5, 0, 0, 0, 0), (10, 1, 0, 0, 1), (5, 0, 0, 0, 2), (10, 2, 0, 0, 3), (55, 4, 0, 0, 4)]),
  (4, [(0, 2, 0, 0, 4), (2, 0, 0, 0, 5), (17, 7, 9, 20, 6), (5, 0, 0, 0, 9), (32, 0, 0, 0, 10), (45, 45, 14, 0, 11)]),
  (14, [(0, 1, 0, 0, 14), (2, 0, 0, 0, 15), (17, 7, 9, 20, 16), (6, 25, 0, 0, 19), (0, 2, 0, 0, 21), (20, 0, 0, 0, 22), (32, 0, 0, 0, 23), (63, 200, 1, 226, 24), (20, 0, 0, 0, 27), (10, 1, 0, 0, 28), (2, 0, 0, 0, 29), (17, 7, 9, 20, 30), (6, 25, 0, 0, 33), (0, 2, 0, 0, 35), (20, 0, 0, 0, 36), (5, 0, 0, 0, 37), (33, 0, 0, 0, 38), (15, 2, 1, 0, 39), (54, 4, 0, 0, 42)]),
  (45, [(0, 1, 0, 0, 45), (5, 2, 0, 0, 46), (29, 0, 0, 0, 47), (70, 0, 0, 0, 48)])]
/-- CCModel.fall -/
def zb_206 : List (Nat × List zO) := [
  (0, [(2, 0, 0, 0, 0), (5, 0, 0, 0, 1), (18, 7, 0, 48, 2), (2, 0, 0, 0, 5), (2, 0, 0, 0, 6), (0, 1, 0, 0, 7), (64, 207, 2, 259, 8), (49, 18, 14, 0, 11)]),
  (14, [(5, 1, 0, 0, 14), (54, 19, 0, 0, 15)]),
  (18, [(5, 0, 0, 0, 18), (55, 19, 0, 0, 19)]),
  (19, [(5, 1, 0, 0, 19), (5, 0, 0, 0, 20), (64, 163, 4, 148, 21), (49, 41, 27, 0, 24)]),
  (27, [(2, 0, 0, 0, 27), (2, 0, 0, 0, 28), (0, 1, 0, 0, 29), (64, 186, 2, 211, 30), (5, 2, 0, 0, 33), (5, 2, 0, 0, 34), (64, 163, 4, 148, 35), (48, 43, 41, 0, 38)]),
  (41, [(5, 0, 0, 0, 41), (70, 0, 0, 0, 42)]),
  (43, [(2, 0, 0, 0, 43), (64, 180, 1, 244, 44), (2, 0, 0, 0, 47), (0, 1, 0, 0, 48), (64, 208, 2, 262, 49), (70, 0, 0, 0, 52)])]
/-- CCModel.isMember -/
def zb_207 : List (Nat × List zO) := [
  (0, [(0, 1, 0, 0, 0), (5, 0, 0, 0, 1), (2, 0, 0, 0, 2), (17, 7, 9, 20, 3), (5, 0, 0, 0, 6), (32, 0, 0, 0, 7), (5, 1, 0, 0, 8), (21, 0, 0, 0, 9), (63, 162, 3, 94, 10), (72, 0, 0, 0, 13)])]
/-- CCModel.falls -/
def zb_208 : List (Nat × List zO) := [
  (0, [(2, 0, 0, 0, 0), (17, 7, 9, 20, 1), (0, 1, 0, 0, 4), (5, 0, 0, 0, 5), (63, 155, 2, 167, 6), (5, 2, 0, 0, 9), (33, 0, 0, 0, 10), (2, 0, 0, 0, 11), (17, 7, 9, 20, 12), (0, 1, 0, 0, 15), (6, 6, 0, 0, 16), (63, 155, 2, 167, 18), (5, 0, 0, 0, 21), (33, 0, 0, 0, 22), (5, 0, 0, 0, 23), (10, 2, 0, 0, 24), (5, 0, 0, 0, 25), (10, 3, 0, 0, 26), (55, 27, 0, 0, 27)]),
  (27, [(0, 3, 0, 0, 27), (2, 0, 0, 0, 28), (17, 7, 9, 20, 29), (6, 8, 0, 0, 32), (32, 0, 0, 0, 34), (45, 71, 38, 0, 35)]),
  (38, [(0, 2, 0, 0, 38), (2, 0, 0, 0, 39), (17, 7, 9, 20, 40), (7, 265, 0, 0, 43), (6, 13, 0, 0, 46), (0, 3, 0, 0, 48), (22, 0, 0, 0, 49), (20, 0, 0, 0, 50), (5, 1, 0, 0, 51), (20, 0, 0, 0, 52), (32, 0, 0, 0, 53), (0, 1, 0, 0, 54), (43, 62, 58, 0, 55)]),
  (58, [(5, 1, 0, 0, 58), (54, 63, 0, 0, 59)]),
  (62, [(5, 0, 0, 0, 62), (55, 63, 0, 0, 63)]),
  (63, [(20, 0, 0, 0, 63), (10, 2, 0, 0, 64), (15, 3, 1, 0, 65), (54, 27, 0, 0, 68)]),
  (71, [(0, 2, 0, 0, 71), (70, 0, 0, 0, 72)])]
/-- CCModel.rise -/
def zb_209 : List (Nat × List zO) := [
  (0, [(2, 0, 0, 0, 0), (5, 0, 0, 0, 1), (18, 7, 0, 48, 2), (2, 0, 0, 0, 5), (2, 0, 0, 0, 6), (0, 1, 0, 0, 7), (64, 207, 2, 259, 8), (49, 18, 14, 0, 11)]),
  (14, [(5, 1, 0, 0, 14), (54, 19, 0, 0, 15)]),
  (18, [(5, 0, 0, 0, 18), (55, 19, 0, 0, 19)]),
  (19, [(5, 1, 0, 0, 19), (5, 0, 0, 0, 20), (64, 163, 4, 148, 21), (49, 49, 27, 0, 24)]),
  (27, [(2, 0, 0, 0, 27), (2, 0, 0, 0, 28), (0, 1, 0, 0, 29), (64, 186, 2, 211, 30), (49, 40, 36, 0, 33)]),
  (36, [(5, 1, 0, 0, 36), (54, 41, 0, 0, 37)]),
  (40, [(5, 0, 0, 0, 40), (55, 41, 0, 0, 41)]),
  (41, [(5, 2, 0, 0, 41), (5, 2, 0, 0, 42), (64, 163, 4, 148, 43), (48, 51, 49, 0, 46)]),
  (49, [(5, 0, 0, 0, 49), (70, 0, 0, 0, 50)]),
  (51, [(2, 0, 0, 0, 51), (64, 180, 1, 244, 52), (2, 0, 0, 0, 55), (0, 1, 0, 0, 56), (64, 153, 2, 164, 57), (2, 0, 0, 0, 60), (17, 7, 9, 20, 61), (0, 1, 0, 0, 64), (5, 3, 0, 0, 65), (63, 155, 2, 167, 66), (32, 0, 0, 0, 69), (70, 0, 0, 0, 70)])]
/-- CCModel.rule -/
def zb_210 : List (Nat × List zO) := [
  (0, [(2, 0, 0, 0, 0), (5, 0, 0, 0, 1), (18, 7, 0, 48, 2), (2, 0, 0, 0, 5), (0, 1, 0, 0, 6), (0, 2, 0, 0, 7), (63, 211, 2, 265, 8), (49, 18, 14, 0, 11)]),
  (14, [(5, 1, 0, 0, 14), (54, 19, 0, 0, 15)]),
  (18, [(5, 0, 0, 0, 18), (55, 19, 0, 0, 19)]),
  (19, [(5, 1, 0, 0, 19), (5, 1, 0, 0, 20), (64, 163, 4, 148, 21), (48, 29, 27, 0, 24)]),
  (27, [(5, 0, 0, 0, 27), (70, 0, 0, 0, 28)]),
  (29, [(2, 0, 0, 0, 29), (64, 180, 1, 244, 30), (2, 0, 0, 0, 33), (17, 7, 9, 20, 34), (5, 2, 0, 0, 37), (0, 1, 0, 0, 38), (20, 0, 0, 0, 39), (32, 0, 0, 0, 40), (10, 3, 0, 0, 41), (2, 0, 0, 0, 42), (17, 7, 9, 20, 43), (5, 2, 0, 0, 46), (0, 1, 0, 0, 47), (20, 0, 0, 0, 48), (0, 2, 0, 0, 49), (33, 0, 0, 0, 50), (0, 3, 0, 0, 51), (70, 0, 0, 0, 52)])]
/-- CCModel.isRule -/
def zb_211 : List (Nat × List zO) := [
  (0, [(0, 0, 0, 0, 0), (5, 0, 0, 0, 1), (5, 3, 0, 0, 2), (63, 162, 3, 94, 3), (48, 30, 9, 0, 6)]),
  (9, [(0, 1, 0, 0, 9), (78, 4, 0, 139, 10), (0, 0, 0, 0, 13), (32, 0, 0, 0, 14), (78, 5, 0, 142, 15), (0, 0, 0, 0, 18), (32, 0, 0, 0, 19), (63, 162, 3, 94, 20), (48, 30, 26, 0, 23)]),
  (26, [(5, 1, 0, 0, 26), (54, 31, 0, 0, 27)]),
  (30, [(5, 0, 0, 0, 30), (55, 31, 0, 0, 31)]),
  (31, [(72, 0, 0, 0, 31)])]
/-- CCModel.told -/
def zb_212 : List (Nat × List zO) := [
  (0, [(2, 0, 0, 0, 0), (5, 0, 0, 0, 1), (18, 7, 0, 48, 2), (2, 0, 0, 0, 5), (0, 1, 0, 0, 6), (5, 0, 0, 0, 7), (6, 18, 0, 0, 8), (63, 162, 3, 94, 10), (49, 20, 16, 0, 13)]),
  (16, [(5, 1, 0, 0, 16), (54, 21, 0, 0, 17)]),
  (20, [(5, 0, 0, 0, 20), (55, 21, 0, 0, 21)]),
  (21, [(5, 1, 0, 0, 21), (5, 1, 0, 0, 22), (64, 163, 4, 148, 23), (48, 31, 29, 0, 26)]),
  (29, [(5, 0, 0, 0, 29), (70, 0, 0, 0, 30)]),
  (31, [(0, 1, 0, 0, 31), (56, 9, 0, 64, 32)]),
  (96, [(2, 0, 0, 0, 96), (17, 7, 9, 20, 97), (6, 8, 0, 0, 100), (32, 0, 0, 0, 102), (70, 0, 0, 0, 103)]),
  (104, [(2, 0, 0, 0, 104), (17, 7, 9, 20, 105), (6, 7, 0, 0, 108), (32, 0, 0, 0, 110), (70, 0, 0, 0, 111)]),
  (112, [(2, 0, 0, 0, 112), (64, 213, 1, 283, 113), (70, 0, 0, 0, 116)]),
  (117, [(2, 0, 0, 0, 117), (64, 216, 1, 286, 118), (70, 0, 0, 0, 121)]),
  (122, [(2, 0, 0, 0, 122), (64, 218, 1, 289, 123), (48, 133, 129, 0, 126)]),
  (129, [(5, 1, 0, 0, 129), (54, 134, 0, 0, 130)]),
  (133, [(5, 0, 0, 0, 133), (55, 134, 0, 0, 134)]),
  (134, [(70, 0, 0, 0, 134)]),
  (135, [(2, 0, 0, 0, 135), (64, 219, 1, 292, 136), (48, 146, 142, 0, 139)]),
  (142, [(5, 1, 0, 0, 142), (54, 147, 0, 0, 143)]),
  (146, [(5, 0, 0, 0, 146), (55, 147, 0, 0, 147)]),
  (147, [(70, 0, 0, 0, 147)]),
  (148, [(2, 0, 0, 0, 148), (64, 220, 1, 295, 149), (70, 0, 0, 0, 152)]),
  (153, [(2, 0, 0, 0, 153), (16, 7, 14, 157, 154), (70, 0, 0, 0, 157)]),
  (158, [(2, 0, 0, 0, 158), (16, 7, 2, 51, 159), (70, 0, 0, 0, 162)]),
  (163, [(2, 0, 0, 0, 163), (17, 7, 9, 20, 164), (7, 4165, 0, 0, 167), (32, 0, 0, 0, 170), (70, 0, 0, 0, 171)]),
  (172, [(2, 0, 0, 0, 172), (0, 1, 0, 0, 173), (6, 17, 0, 0, 174), (43, 183, 179, 0, 176)]),
  (179, [(5, 1, 0, 0, 179), (54, 184, 0, 0, 180)]),
  (183, [(5, 0, 0, 0, 183), (55, 184, 0, 0, 184)]),
  (184, [(64, 223, 2, 298, 184), (70, 0, 0, 0, 187)]),
  (188, [(2, 0, 0, 0, 188), (17, 7, 9, 20, 189), (0, 1, 0, 0, 192), (32, 0, 0, 0, 193), (70, 0, 0, 0, 194)])]
/-- CCModel.circles -/
def zb_213 : List (Nat × List zO) := [
  (0, [(5, 0, 0, 0, 0), (10, 1, 0, 0, 1), (5, 0, 0, 0, 2), (10, 2, 0, 0, 3), (55, 4, 0, 0, 4)]),
  (4, [(0, 2, 0, 0, 4), (2, 0, 0, 0, 5), (17, 7, 9, 20, 6), (5, 0, 0, 0, 9), (32, 0, 0, 0, 10), (45, 48, 14, 0, 11)]),
  (14, [(0, 1, 0, 0, 14), (2, 0, 0, 0, 15), (0, 2, 0, 0, 16), (64, 188, 2, 190, 17), (48, 39, 23, 0, 20)]),
  (23, [(2, 0, 0, 0, 23), (0, 2, 0, 0, 24), (64, 214, 2, 268, 25), (63, 215, 1, 271, 28), (0, 2, 0, 0, 31), (43, 39, 35, 0, 32)]),
  (35, [(5, 1, 0, 0, 35), (54, 40, 0, 0, 36)]),
  (39, [(5, 0, 0, 0, 39), (55, 40, 0, 0, 40)]),
  (40, [(20, 0, 0, 0, 40), (10, 1, 0, 0, 41), (15, 2, 1, 0, 42), (54, 4, 0, 0, 45)]),
  (48, [(0, 1, 0, 0, 48), (70, 0, 0, 0, 49)])]
/-- CCModel.circleOf -/
def zb_214 : List (Nat × List zO) := [
  (0, [(5, 0, 0, 0, 0), (10, 2, 0, 0, 1), (5, 0, 0, 0, 2), (10, 3, 0, 0, 3), (55, 4, 0, 0, 4)]),
  (4, [(0, 3, 0, 0, 4), (2, 0, 0, 0, 5), (17, 7, 9, 20, 6), (5, 0, 0, 0, 9), (32, 0, 0, 0, 10), (45, 69, 14, 0, 11)]),
  (14, [(2, 0, 0, 0, 14), (0, 1, 0, 0, 15), (64, 188, 2, 190, 16), (48, 69, 22, 0, 19)]),
  (22, [(0, 2, 0, 0, 22), (2, 0, 0, 0, 23), (0, 3, 0, 0, 24), (64, 188, 2, 190, 25), (48, 60, 31, 0, 28)]),
  (31, [(2, 0, 0, 0, 31), (17, 7, 9, 20, 32), (0, 3, 0, 0, 35), (5, 3, 0, 0, 36), (63, 155, 2, 167, 37), (32, 0, 0, 0, 40), (2, 0, 0, 0, 41), (17, 7, 9, 20, 42), (0, 1, 0, 0, 45), (5, 3, 0, 0, 46), (63, 155, 2, 167, 47), (32, 0, 0, 0, 50), (43, 60, 54, 0, 51)]),
  (54, [(5, 1, 0, 0, 54), (0, 3, 0, 0, 55), (26, 0, 0, 0, 56), (54, 61, 0, 0, 57)]),
  (60, [(5, 0, 0, 0, 60), (55, 61, 0, 0, 61)]),
  (61, [(24, 0, 0, 0, 61), (10, 2, 0, 0, 62), (15, 3, 1, 0, 63), (54, 4, 0, 0, 66)]),
  (69, [(0, 2, 0, 0, 69), (70, 0, 0, 0, 70)])]
/-- CCModel.first -/
def zb_215 : List (Nat × List zO) := [
  (0, [(5, 0, 0, 0, 0), (10, 1, 0, 0, 1), (55, 2, 0, 0, 2)]),
  (2, [(0, 0, 0, 0, 2), (0, 1, 0, 0, 3), (63, 175, 2, 132, 4), (49, 16, 10, 0, 7)]),
  (10, [(15, 1, 1, 0, 10), (54, 2, 0, 0, 13)]),
  (16, [(0, 1, 0, 0, 16), (70, 0, 0, 0, 17)])]
/-- CCModel.sets -/
def zb_216 : List (Nat × List zO) := [
  (0, [(5, 0, 0, 0, 0), (10, 1, 0, 0, 1), (5, 0, 0, 0, 2), (10, 2, 0, 0, 3), (55, 4, 0, 0, 4)]),
  (4, [(0, 2, 0, 0, 4), (2, 0, 0, 0, 5), (17, 7, 9, 20, 6), (5, 0, 0, 0, 9), (32, 0, 0, 0, 10), (45, 48, 14, 0, 11)]),
  (14, [(0, 1, 0, 0, 14), (2, 0, 0, 0, 15), (0, 2, 0, 0, 16), (64, 186, 2, 211, 17), (49, 39, 23, 0, 20)]),
  (23, [(2, 0, 0, 0, 23), (0, 2, 0, 0, 24), (64, 217, 2, 274, 25), (63, 215, 1, 271, 28), (0, 2, 0, 0, 31), (43, 39, 35, 0, 32)]),
  (35, [(5, 1, 0, 0, 35), (54, 40, 0, 0, 36)]),
  (39, [(5, 0, 0, 0, 39), (55, 40, 0, 0, 40)]),
  (40, [(20, 0, 0, 0, 40), (10, 1, 0, 0, 41), (15, 2, 1, 0, 42), (54, 4, 0, 0, 45)]),
  (48, [(0, 1, 0, 0, 48), (70, 0, 0, 0, 49)])]
/-- CCModel.setOf -/
def zb_217 : List (Nat × List zO) := [
  (0, [(2, 0, 0, 0, 0), (0, 1, 0, 0, 1), (64, 186, 2, 211, 2), (48, 12, 8, 0, 5)]),
  (8, [(5, 0, 0, 0, 8), (54, 15, 0, 0, 9)]),
  (12, [(5, 1, 0, 0, 12), (0, 1, 0, 0, 13), (26, 0, 0, 0, 14), (55, 15, 0, 0, 15)]),
  (15, [(10, 2, 0, 0, 15), (5, 0, 0, 0, 16), (10, 3, 0, 0, 17), (55, 18, 0, 0, 18)]),
  (18, [(0, 3, 0, 0, 18), (2, 0, 0, 0, 19), (17, 7, 9, 20, 20), (5, 0, 0, 0, 23), (32, 0, 0, 0, 24), (45, 117, 28, 0, 25)]),
  (28, [(5, 0, 0, 0, 28), (11, 4, 0, 0, 29), (55, 31, 0, 0, 31)]),
  (31, [(1, 4, 0, 0, 31), (2, 0, 0, 0, 33), (17, 7, 9, 20, 34), (5, 0, 0, 0, 37), (32, 0, 0, 0, 38), (45, 111, 42, 0, 39)]),
  (42, [(5, 0, 0, 0, 42), (11, 5, 0, 0, 43), (55, 45, 0, 0, 45)]),
  (45, [(1, 5, 0, 0, 45), (2, 0, 0, 0, 47), (17, 7, 9, 20, 48), (5, 0, 0, 0, 51), (32, 0, 0, 0, 52), (45, 105, 56, 0, 53)]),
  (56, [(0, 2, 0, 0, 56), (1, 4, 0, 0, 57), (63, 175, 2, 132, 59), (48, 99, 65, 0, 62)]),
  (65, [(2, 0, 0, 0, 65), (1, 5, 0, 0, 66), (64, 186, 2, 211, 68), (49, 99, 74, 0, 71)]),
  (74, [(1, 4, 0, 0, 74), (1, 5, 0, 0, 76), (42, 99, 81, 0, 78)]),
  (81, [(2, 0, 0, 0, 81), (1, 4, 0, 0, 82), (1, 5, 0, 0, 84), (64, 185, 3, 208, 86), (48, 99, 92, 0, 89)]),
  (92, [(0, 2, 0, 0, 92), (5, 1, 0, 0, 93), (1, 5, 0, 0, 94), (26, 0, 0, 0, 96), (24, 0, 0, 0, 97), (10, 2, 0, 0, 98), (55, 99, 0, 0, 99)]),
  (99, [(15, 5, 1, 0, 99), (54, 45, 0, 0, 102)]),
  (105, [(15, 4, 1, 0, 105), (54, 31, 0, 0, 108)]),
  (111, [(15, 3, 1, 0, 111), (54, 18, 0, 0, 114)]),
  (117, [(0, 2, 0, 0, 117), (70, 0, 0, 0, 118)])]
/-- CCModel.isOne -/
def zb_218 : List (Nat × List zO) := [
  (0, [(5, 0, 0, 0, 0), (10, 1, 0, 0, 1), (55, 2, 0, 0, 2)]),
  (2, [(0, 1, 0, 0, 2), (2, 0, 0, 0, 3), (17, 7, 9, 20, 4), (5, 0, 0, 0, 7), (32, 0, 0, 0, 8), (45, 67, 12, 0, 9)]),
  (12, [(2, 0, 0, 0, 12), (0, 1, 0, 0, 13), (64, 186, 2, 211, 14), (49, 61, 20, 0, 17)]),
  (20, [(2, 0, 0, 0, 20), (0, 1, 0, 0, 21), (64, 188, 2, 190, 22), (48, 59, 28, 0, 25)]),
  (28, [(2, 0, 0, 0, 28), (0, 1, 0, 0, 29), (64, 214, 2, 268, 30), (2, 0, 0, 0, 33), (0, 1, 0, 0, 34), (64, 217, 2, 274, 35), (43, 59, 41, 0, 38)]),
  (41, [(2, 0, 0, 0, 41), (17, 7, 9, 20, 42), (0, 1, 0, 0, 45), (5, 4, 0, 0, 46), (63, 155, 2, 167, 47), (32, 0, 0, 0, 50), (2, 0, 0, 0, 51), (0, 1, 0, 0, 52), (64, 217, 2, 274, 53), (42, 61, 59, 0, 56)]),
  (59, [(5, 0, 0, 0, 59), (72, 0, 0, 0, 60)]),
  (61, [(15, 1, 1, 0, 61), (54, 2, 0, 0, 64)]),
  (67, [(5, 1, 0, 0, 67), (72, 0, 0, 0, 68)])]
/-- CCModel.isSound -/
def zb_219 : List (Nat × List zO) := [
  (0, [(5, 0, 0, 0, 0), (10, 1, 0, 0, 1), (55, 2, 0, 0, 2)]),
  (2, [(0, 1, 0, 0, 2), (2, 0, 0, 0, 3), (17, 7, 9, 20, 4), (5, 0, 0, 0, 7), (32, 0, 0, 0, 8), (45, 112, 12, 0, 9)]),
  (12, [(2, 0, 0, 0, 12), (0, 1, 0, 0, 13), (64, 188, 2, 190, 14), (49, 23, 20, 0, 17)]),
  (20, [(54, 106, 0, 0, 20)]),
  (23, [(5, 0, 0, 0, 23), (10, 2, 0, 0, 24), (5, 0, 0, 0, 25), (10, 3, 0, 0, 26), (55, 27, 0, 0, 27)]),
  (27, [(0, 3, 0, 0, 27), (2, 0, 0, 0, 28), (17, 7, 9, 20, 29), (5, 0, 0, 0, 32), (32, 0, 0, 0, 33), (45, 99, 37, 0, 34)]),
  (37, [(2, 0, 0, 0, 37), (0, 1, 0, 0, 38), (64, 214, 2, 268, 39), (0, 3, 0, 0, 42), (63, 175, 2, 132, 43), (49, 52, 49, 0, 46)]),
  (49, [(54, 93, 0, 0, 49)]),
  (52, [(0, 2, 0, 0, 52), (2, 0, 0, 0, 53), (0, 3, 0, 0, 54), (64, 189, 2, 193, 55), (48, 65, 61, 0, 58)]),
  (61, [(5, 1, 0, 0, 61), (54, 66, 0, 0, 62)]),
  (65, [(5, 0, 0, 0, 65), (55, 66, 0, 0, 66)]),
  (66, [(20, 0, 0, 0, 66), (10, 2, 0, 0, 67), (2, 0, 0, 0, 68), (17, 7, 9, 20, 69), (0, 3, 0, 0, 72), (5, 1, 0, 0, 73), (63, 155, 2, 167, 74), (32, 0, 0, 0, 77), (2, 0, 0, 0, 78), (17, 7, 9, 20, 79), (0, 1, 0, 0, 82), (5, 1, 0, 0, 83), (63, 155, 2, 167, 84), (32, 0, 0, 0, 87), (42, 93, 91, 0, 88)]),
  (91, [(5, 0, 0, 0, 91), (72, 0, 0, 0, 92)]),
  (93, [(15, 3, 1, 0, 93), (54, 27, 0, 0, 96)]),
  (99, [(0, 2, 0, 0, 99), (5, 1, 0, 0, 100), (47, 106, 104, 0, 101)]),
  (104, [(5, 0, 0, 0, 104), (72, 0, 0, 0, 105)]),
  (106, [(15, 1, 1, 0, 106), (54, 2, 0, 0, 109)]),
  (112, [(5, 1, 0, 0, 112), (72, 0, 0, 0, 113)])]
/-- CCModel.twice -/
def zb_220 : List (Nat × List zO) := [
  (0, [(5, 0, 0, 0, 0), (10, 1, 0, 0, 1), (5, 0, 0, 0, 2), (10, 2, 0, 0, 3), (55, 4, 0, 0, 4)]),
  (4, [(0, 2, 0, 0, 4), (2, 0, 0, 0, 5), (17, 7, 9, 20, 6), (5, 1, 0, 0, 9), (32, 0, 0, 0, 10), (45, 34, 14, 0, 11)]),
  (14, [(0, 1, 0, 0, 14), (2, 0, 0, 0, 15), (0, 2, 0, 0, 16), (64, 221, 2, 277, 17), (2, 0, 0, 0, 20), (0, 2, 0, 0, 21), (64, 222, 2, 280, 22), (21, 0, 0, 0, 25), (20, 0, 0, 0, 26), (10, 1, 0, 0, 27), (15, 2, 1, 0, 28), (54, 4, 0, 0, 31)]),
  (34, [(0, 1, 0, 0, 34), (70, 0, 0, 0, 35)])]
/-- CCModel.workOf -/
def zb_221 : List (Nat × List zO) := [
  (0, [(5, 0, 0, 0, 0), (10, 2, 0, 0, 1), (5, 0, 0, 0, 2), (10, 3, 0, 0, 3), (55, 4, 0, 0, 4)]),
  (4, [(0, 3, 0, 0, 4), (2, 0, 0, 0, 5), (17, 7, 9, 20, 6), (5, 0, 0, 0, 9), (32, 0, 0, 0, 10), (45, 36, 14, 0, 11)]),
  (14, [(0, 2, 0, 0, 14), (2, 0, 0, 0, 15), (17, 7, 9, 20, 16), (0, 3, 0, 0, 19), (6, 14, 0, 0, 20), (0, 1, 0, 0, 22), (20, 0, 0, 0, 23), (63, 155, 2, 167, 24), (32, 0, 0, 0, 27), (20, 0, 0, 0, 28), (10, 2, 0, 0, 29), (15, 3, 1, 0, 30), (54, 4, 0, 0, 33)]),
  (36, [(0, 2, 0, 0, 36), (70, 0, 0, 0, 37)])]
/-- CCModel.greatestOf -/
def zb_222 : List (Nat × List zO) := [
  (0, [(5, 0, 0, 0, 0), (10, 2, 0, 0, 1), (5, 0, 0, 0, 2), (10, 3, 0, 0, 3), (55, 4, 0, 0, 4)]),
  (4, [(0, 3, 0, 0, 4), (2, 0, 0, 0, 5), (17, 7, 9, 20, 6), (5, 0, 0, 0, 9), (32, 0, 0, 0, 10), (45, 38, 14, 0, 11)]),
  (14, [(0, 2, 0, 0, 14), (2, 0, 0, 0, 15), (17, 7, 9, 20, 16), (0, 3, 0, 0, 19), (6, 8, 0, 0, 20), (0, 1, 0, 0, 22), (20, 0, 0, 0, 23), (63, 155, 2, 167, 24), (32, 0, 0, 0, 27), (63, 194, 2, 187, 28), (10, 2, 0, 0, 31), (15, 3, 1, 0, 32), (54, 4, 0, 0, 35)]),
  (38, [(0, 2, 0, 0, 38), (70, 0, 0, 0, 39)])]
/-- CCModel.jobsIn -/
def zb_223 : List (Nat × List zO) := [
  (0, [(5, 0, 0, 0, 0), (10, 2, 0, 0, 1), (5, 0, 0, 0, 2), (10, 3, 0, 0, 3), (55, 4, 0, 0, 4)]),
  (4, [(0, 3, 0, 0, 4), (2, 0, 0, 0, 5), (17, 7, 9, 20, 6), (5, 1, 0, 0, 9), (32, 0, 0, 0, 10), (45, 97, 14, 0, 11)]),
  (14, [(5, 0, 0, 0, 14), (11, 4, 0, 0, 15), (5, 0, 0, 0, 17), (11, 5, 0, 0, 18), (55, 20, 0, 0, 20)]),
  (20, [(1, 5, 0, 0, 20), (2, 0, 0, 0, 22), (17, 7, 9, 20, 23), (5, 0, 0, 0, 26), (32, 0, 0, 0, 27), (45, 60, 31, 0, 28)]),
  (31, [(1, 4, 0, 0, 31), (2, 0, 0, 0, 33), (1, 5, 0, 0, 34), (64, 199, 2, 229, 36), (0, 3, 0, 0, 39), (63, 175, 2, 132, 40), (48, 50, 46, 0, 43)]),
  (46, [(5, 1, 0, 0, 46), (54, 51, 0, 0, 47)]),
  (50, [(5, 0, 0, 0, 50), (55, 51, 0, 0, 51)]),
  (51, [(20, 0, 0, 0, 51), (11, 4, 0, 0, 52), (15, 5, 1, 0, 54), (54, 20, 0, 0, 57)]),
  (60, [(0, 2, 0, 0, 60), (0, 1, 0, 0, 61), (48, 79, 65, 0, 62)]),
  (65, [(1, 4, 0, 0, 65), (5, 1, 0, 0, 67), (47, 75, 71, 0, 68)]),
  (71, [(5, 1, 0, 0, 71), (54, 89, 0, 0, 72)]),
  (75, [(5, 0, 0, 0, 75), (54, 89, 0, 0, 76)]),
  (79, [(1, 4, 0, 0, 79), (49, 88, 84, 0, 81)]),
  (84, [(5, 1, 0, 0, 84), (54, 89, 0, 0, 85)]),
  (88, [(5, 0, 0, 0, 88), (55, 89, 0, 0, 89)]),
  (89, [(20, 0, 0, 0, 89), (10, 2, 0, 0, 90), (15, 3, 1, 0, 91), (54, 4, 0, 0, 94)]),
  (97, [(0, 2, 0, 0, 97), (70, 0, 0, 0, 98)])]
/-- CCModel.member -/
def zb_224 : List (Nat × List zO) := [
  (0, [(2, 0, 0, 0, 0), (5, 0, 0, 0, 1), (18, 7, 0, 48, 2), (2, 0, 0, 0, 5), (2, 0, 0, 0, 6), (0, 1, 0, 0, 7), (64, 207, 2, 259, 8), (49, 18, 14, 0, 11)]),
  (14, [(5, 1, 0, 0, 14), (54, 19, 0, 0, 15)]),
  (18, [(5, 0, 0, 0, 18), (55, 19, 0, 0, 19)]),
  (19, [(5, 1, 0, 0, 19), (5, 0, 0, 0, 20), (64, 163, 4, 148, 21), (49, 51, 27, 0, 24)]),
  (27, [(2, 0, 0, 0, 27), (0, 2, 0, 0, 28), (5, 0, 0, 0, 29), (6, 12, 0, 0, 30), (63, 162, 3, 94, 32), (49, 42, 38, 0, 35)]),
  (38, [(5, 1, 0, 0, 38), (54, 43, 0, 0, 39)]),
  (42, [(5, 0, 0, 0, 42), (55, 43, 0, 0, 43)]),
  (43, [(5, 2, 0, 0, 43), (5, 1, 0, 0, 44), (64, 163, 4, 148, 45), (48, 53, 51, 0, 48)]),
  (51, [(5, 0, 0, 0, 51), (70, 0, 0, 0, 52)]),
  (53, [(0, 2, 0, 0, 53), (56, 10, 0, 66, 54)]),
  (120, [(2, 0, 0, 0, 120), (17, 7, 9, 20, 121), (6, 33, 0, 0, 124), (0, 1, 0, 0, 126), (20, 0, 0, 0, 127), (32, 0, 0, 0, 128), (70, 0, 0, 0, 129)]),
  (130, [(2, 0, 0, 0, 130), (17, 7, 9, 20, 131), (0, 1, 0, 0, 134), (6, 6, 0, 0, 135), (63, 155, 2, 167, 137), (32, 0, 0, 0, 140), (49, 148, 144, 0, 141)]),
  (144, [(5, 0, 0, 0, 144), (54, 167, 0, 0, 145)]),
  (148, [(2, 0, 0, 0, 148), (17, 7, 9, 20, 149), (0, 1, 0, 0, 152), (6, 7, 0, 0, 153), (63, 155, 2, 167, 155), (32, 0, 0, 0, 158), (2, 0, 0, 0, 159), (17, 7, 9, 20, 160), (6, 6, 0, 0, 163), (32, 0, 0, 0, 165), (21, 0, 0, 0, 166), (55, 167, 0, 0, 167)]),
  (167, [(70, 0, 0, 0, 167)]),
  (168, [(2, 0, 0, 0, 168), (0, 1, 0, 0, 169), (64, 199, 2, 229, 170), (70, 0, 0, 0, 173)]),
  (174, [(2, 0, 0, 0, 174), (0, 1, 0, 0, 175), (64, 217, 2, 274, 176), (70, 0, 0, 0, 179)]),
  (180, [(2, 0, 0, 0, 180), (0, 1, 0, 0, 181), (64, 214, 2, 268, 182), (70, 0, 0, 0, 185)]),
  (186, [(2, 0, 0, 0, 186), (17, 7, 9, 20, 187), (0, 1, 0, 0, 190), (6, 20, 0, 0, 191), (63, 155, 2, 167, 193), (32, 0, 0, 0, 196), (70, 0, 0, 0, 197)]),
  (198, [(2, 0, 0, 0, 198), (17, 7, 9, 20, 199), (0, 1, 0, 0, 202), (0, 2, 0, 0, 203), (5, 1, 0, 0, 204), (21, 0, 0, 0, 205), (63, 155, 2, 167, 206), (32, 0, 0, 0, 209), (70, 0, 0, 0, 210)])]
/-- CCModel.units -/
def zb_225 : List (Nat × List zO) := [
  (0, [(2, 0, 0, 0, 0), (5, 0, 0, 0, 1), (18, 7, 0, 48, 2), (2, 0, 0, 0, 5), (2, 0, 0, 0, 6), (0, 1, 0, 0, 7), (64, 207, 2, 259, 8), (48, 22, 14, 0, 11)]),
  (14, [(2, 0, 0, 0, 14), (0, 2, 0, 0, 15), (64, 226, 2, 302, 16), (49, 26, 22, 0, 19)]),
  (22, [(5, 1, 0, 0, 22), (54, 27, 0, 0, 23)]),
  (26, [(5, 0, 0, 0, 26), (55, 27, 0, 0, 27)]),
  (27, [(5, 1, 0, 0, 27), (5, 0, 0, 0, 28), (64, 163, 4, 148, 29), (49, 58, 35, 0, 32)]),
  (35, [(2, 0, 0, 0, 35), (0, 3, 0, 0, 36), (5, 0, 0, 0, 37), (5, 1, 0, 0, 38), (63, 162, 3, 94, 39), (49, 49, 45, 0, 42)]),
  (45, [(5, 1, 0, 0, 45), (54, 50, 0, 0, 46)]),
  (49, [(5, 0, 0, 0, 49), (55, 50, 0, 0, 50)]),
  (50, [(5, 2, 0, 0, 50), (5, 1, 0, 0, 51), (64, 163, 4, 148, 52), (48, 60, 58, 0, 55)]),
  (58, [(5, 0, 0, 0, 58), (70, 0, 0, 0, 59)]),
  (60, [(2, 0, 0, 0, 60), (17, 7, 9, 20, 61), (0, 1, 0, 0, 64), (0, 3, 0, 0, 65), (49, 74, 69, 0, 66)]),
  (69, [(6, 8, 0, 0, 69), (54, 76, 0, 0, 71)]),
  (74, [(6, 14, 0, 0, 74), (55, 76, 0, 0, 76)]),
  (76, [(0, 2, 0, 0, 76), (20, 0, 0, 0, 77), (63, 155, 2, 167, 78), (32, 0, 0, 0, 81), (70, 0, 0, 0, 82)])]
/-- CCModel.isJob -/
def zb_226 : List (Nat × List zO) := [
  (0, [(0, 1, 0, 0, 0), (5, 0, 0, 0, 1), (2, 0, 0, 0, 2), (17, 7, 9, 20, 3), (5, 1, 0, 0, 6), (32, 0, 0, 0, 7), (5, 1, 0, 0, 8), (21, 0, 0, 0, 9), (63, 162, 3, 94, 10), (72, 0, 0, 0, 13)])]
/-- CCModel.job -/
def zb_227 : List (Nat × List zO) := [
  (0, [(2, 0, 0, 0, 0), (5, 0, 0, 0, 1), (18, 7, 0, 48, 2), (2, 0, 0, 0, 5), (2, 0, 0, 0, 6), (0, 1, 0, 0, 7), (64, 226, 2, 302, 8), (49, 18, 14, 0, 11)]),
  (14, [(5, 1, 0, 0, 14), (54, 19, 0, 0, 15)]),
  (18, [(5, 0, 0, 0, 18), (55, 19, 0, 0, 19)]),
  (19, [(5, 1, 0, 0, 19), (5, 0, 0, 0, 20), (64, 163, 4, 148, 21), (49, 50, 27, 0, 24)]),
  (27, [(2, 0, 0, 0, 27), (0, 2, 0, 0, 28), (5, 0, 0, 0, 29), (5, 3, 0, 0, 30), (63, 162, 3, 94, 31), (49, 41, 37, 0, 34)]),
  (37, [(5, 1, 0, 0, 37), (54, 42, 0, 0, 38)]),
  (41, [(5, 0, 0, 0, 41), (55, 42, 0, 0, 42)]),
  (42, [(5, 2, 0, 0, 42), (5, 1, 0, 0, 43), (64, 163, 4, 148, 44), (48, 52, 50, 0, 47)]),
  (50, [(5, 0, 0, 0, 50), (70, 0, 0, 0, 51)]),
  (52, [(0, 2, 0, 0, 52), (5, 3, 0, 0, 53), (45, 88, 57, 0, 54)]),
  (57, [(0, 2, 0, 0, 57), (49, 69, 61, 0, 58)]),
  (61, [(2, 0, 0, 0, 61), (0, 1, 0, 0, 62), (64, 221, 2, 277, 63), (54, 87, 0, 0, 66)]),
  (69, [(0, 2, 0, 0, 69), (5, 1, 0, 0, 70), (43, 82, 74, 0, 71)]),
  (74, [(2, 0, 0, 0, 74), (0, 1, 0, 0, 75), (64, 222, 2, 280, 76), (54, 87, 0, 0, 79)]),
  (82, [(2, 0, 0, 0, 82), (0, 1, 0, 0, 83), (64, 228, 2, 305, 84), (55, 87, 0, 0, 87)]),
  (87, [(70, 0, 0, 0, 87)]),
  (88, [(5, 0, 0, 0, 88), (10, 3, 0, 0, 89), (5, 0, 0, 0, 90), (11, 4, 0, 0, 91), (55, 93, 0, 0, 93)]),
  (93, [(1, 4, 0, 0, 93), (2, 0, 0, 0, 95), (17, 7, 9, 20, 96), (5, 0, 0, 0, 99), (32, 0, 0, 0, 100), (45, 134, 104, 0, 101)]),
  (104, [(0, 3, 0, 0, 104), (2, 0, 0, 0, 105), (1, 4, 0, 0, 106), (64, 199, 2, 229, 108), (0, 1, 0, 0, 111), (63, 175, 2, 132, 112), (48, 125, 118, 0, 115)]),
  (118, [(5, 1, 0, 0, 118), (1, 4, 0, 0, 119), (26, 0, 0, 0, 121), (54, 126, 0, 0, 122)]),
  (125, [(5, 0, 0, 0, 125), (55, 126, 0, 0, 126)]),
  (126, [(24, 0, 0, 0, 126), (10, 3, 0, 0, 127), (15, 4, 1, 0, 128), (54, 93, 0, 0, 131)]),
  (134, [(0, 3, 0, 0, 134), (70, 0, 0, 0, 135)])]
/-- CCModel.leastOf -/
def zb_228 : List (Nat × List zO) := [
  (0, [(2, 0, 0, 0, 0), (17, 7, 9, 20, 1), (5, 0, 0, 0, 4), (6, 8, 0, 0, 5), (0, 1, 0, 0, 7), (20, 0, 0, 0, 8), (63, 155, 2, 167, 9), (32, 0, 0, 0, 12), (10, 2, 0, 0, 13), (5, 1, 0, 0, 14), (10, 3, 0, 0, 15), (55, 16, 0, 0, 16)]),
  (16, [(0, 3, 0, 0, 16), (2, 0, 0, 0, 17), (17, 7, 9, 20, 18), (5, 0, 0, 0, 21), (32, 0, 0, 0, 22), (45, 50, 26, 0, 23)]),
  (26, [(0, 2, 0, 0, 26), (2, 0, 0, 0, 27), (17, 7, 9, 20, 28), (0, 3, 0, 0, 31), (6, 8, 0, 0, 32), (0, 1, 0, 0, 34), (20, 0, 0, 0, 35), (63, 155, 2, 167, 36), (32, 0, 0, 0, 39), (63, 172, 2, 90, 40), (10, 2, 0, 0, 43), (15, 3, 1, 0, 44), (54, 16, 0, 0, 47)]),
  (50, [(0, 2, 0, 0, 50), (70, 0, 0, 0, 51)])]
/-- CCModel.link -/
def zb_229 : List (Nat × List zO) := [
  (0, [(2, 0, 0, 0, 0), (5, 0, 0, 0, 1), (18, 7, 0, 48, 2), (2, 0, 0, 0, 5), (2, 0, 0, 0, 6), (0, 1, 0, 0, 7), (64, 207, 2, 259, 8), (48, 22, 14, 0, 11)]),
  (14, [(2, 0, 0, 0, 14), (0, 2, 0, 0, 15), (64, 207, 2, 259, 16), (49, 26, 22, 0, 19)]),
  (22, [(5, 1, 0, 0, 22), (54, 27, 0, 0, 23)]),
  (26, [(5, 0, 0, 0, 26), (55, 27, 0, 0, 27)]),
  (27, [(5, 1, 0, 0, 27), (5, 0, 0, 0, 28), (64, 163, 4, 148, 29), (49, 54, 35, 0, 32)]),
  (35, [(2, 0, 0, 0, 35), (0, 1, 0, 0, 36), (0, 2, 0, 0, 37), (43, 45, 41, 0, 38)]),
  (41, [(5, 1, 0, 0, 41), (54, 46, 0, 0, 42)]),
  (45, [(5, 0, 0, 0, 45), (55, 46, 0, 0, 46)]),
  (46, [(5, 2, 0, 0, 46), (5, 1, 0, 0, 47), (64, 163, 4, 148, 48), (48, 56, 54, 0, 51)]),
  (54, [(5, 0, 0, 0, 54), (72, 0, 0, 0, 55)]),
  (56, [(2, 0, 0, 0, 56), (0, 1, 0, 0, 57), (0, 2, 0, 0, 58), (64, 185, 3, 208, 59), (72, 0, 0, 0, 62)])]
/-- CCModel.letter -/
def zb_230 : List (Nat × List zO) := [
  (0, [(2, 0, 0, 0, 0), (5, 0, 0, 0, 1), (18, 7, 0, 48, 2), (2, 0, 0, 0, 5), (0, 1, 0, 0, 6), (5, 0, 0, 0, 7), (2, 0, 0, 0, 8), (17, 7, 9, 20, 9), (6, 8, 0, 0, 12), (32, 0, 0, 0, 14), (5, 1, 0, 0, 15), (21, 0, 0, 0, 16), (63, 162, 3, 94, 17), (49, 27, 23, 0, 20)]),
  (23, [(5, 1, 0, 0, 23), (54, 28, 0, 0, 24)]),
  (27, [(5, 0, 0, 0, 27), (55, 28, 0, 0, 28)]),
  (28, [(5, 1, 0, 0, 28), (5, 0, 0, 0, 29), (64, 163, 4, 148, 30), (49, 60, 36, 0, 33)]),
  (36, [(2, 0, 0, 0, 36), (0, 2, 0, 0, 37), (5, 0, 0, 0, 38), (6, 6, 0, 0, 39), (63, 162, 3, 94, 41), (49, 51, 47, 0, 44)]),
  (47, [(5, 1, 0, 0, 47), (54, 52, 0, 0, 48)]),
  (51, [(5, 0, 0, 0, 51), (55, 52, 0, 0, 52)]),
  (52, [(5, 2, 0, 0, 52), (5, 1, 0, 0, 53), (64, 163, 4, 148, 54), (48, 62, 60, 0, 57)]),
  (60, [(5, 0, 0, 0, 60), (70, 0, 0, 0, 61)]),
  (62, [(7, 265, 0, 0, 62), (6, 13, 0, 0, 65), (0, 1, 0, 0, 67), (22, 0, 0, 0, 68), (20, 0, 0, 0, 69), (10, 3, 0, 0, 70), (0, 2, 0, 0, 71), (5, 3, 0, 0, 72), (43, 95, 76, 0, 73)]),
  (76, [(2, 0, 0, 0, 76), (17, 7, 9, 20, 77), (0, 3, 0, 0, 80), (5, 3, 0, 0, 81), (20, 0, 0, 0, 82), (32, 0, 0, 0, 83), (2, 0, 0, 0, 84), (17, 7, 9, 20, 85), (6, 6, 0, 0, 88), (32, 0, 0, 0, 90), (21, 0, 0, 0, 91), (54, 103, 0, 0, 92)]),
  (95, [(2, 0, 0, 0, 95), (17, 7, 9, 20, 96), (0, 3, 0, 0, 99), (0, 2, 0, 0, 100), (20, 0, 0, 0, 101), (32, 0, 0, 0, 102), (55, 103, 0, 0, 103)]),
  (103, [(70, 0, 0, 0, 103)])]
/-- CCModel.sent -/
def zb_231 : List (Nat × List zO) := [
  (0, [(2, 0, 0, 0, 0), (5, 0, 0, 0, 1), (18, 7, 0, 48, 2), (2, 0, 0, 0, 5), (0, 1, 0, 0, 6), (5, 0, 0, 0, 7), (6, 7, 0, 0, 8), (63, 162, 3, 94, 10), (48, 25, 16, 0, 13)]),
  (16, [(0, 2, 0, 0, 16), (5, 0, 0, 0, 17), (5, 1, 0, 0, 18), (63, 162, 3, 94, 19), (49, 29, 25, 0, 22)]),
  (25, [(5, 1, 0, 0, 25), (54, 30, 0, 0, 26)]),
  (29, [(5, 0, 0, 0, 29), (55, 30, 0, 0, 30)]),
  (30, [(5, 1, 0, 0, 30), (5, 1, 0, 0, 31), (64, 163, 4, 148, 32), (48, 40, 38, 0, 35)]),
  (38, [(5, 0, 0, 0, 38), (70, 0, 0, 0, 39)]),
  (40, [(2, 0, 0, 0, 40), (17, 7, 9, 20, 41), (0, 2, 0, 0, 44), (49, 53, 48, 0, 45)]),
  (48, [(6, 9, 0, 0, 48), (54, 55, 0, 0, 50)]),
  (53, [(6, 17, 0, 0, 53), (55, 55, 0, 0, 55)]),
  (55, [(0, 1, 0, 0, 55), (20, 0, 0, 0, 56), (32, 0, 0, 0, 57), (70, 0, 0, 0, 58)])]
/-- CCModel.tally -/
def zb_232 : List (Nat × List zO) := [
  (0, [(2, 0, 0, 0, 0), (5, 0, 0, 0, 1), (18, 7, 0, 48, 2), (2, 0, 0, 0, 5), (2, 0, 0, 0, 6), (0, 1, 0, 0, 7), (64, 207, 2, 259, 8), (49, 18, 14, 0, 11)]),
  (14, [(5, 1, 0, 0, 14), (54, 19, 0, 0, 15)]),
  (18, [(5, 0, 0, 0, 18), (55, 19, 0, 0, 19)]),
  (19, [(5, 1, 0, 0, 19), (5, 0, 0, 0, 20), (64, 163, 4, 148, 21), (49, 51, 27, 0, 24)]),
  (27, [(2, 0, 0, 0, 27), (0, 2, 0, 0, 28), (5, 0, 0, 0, 29), (6, 6, 0, 0, 30), (63, 162, 3, 94, 32), (49, 42, 38, 0, 35)]),
  (38, [(5, 1, 0, 0, 38), (54, 43, 0, 0, 39)]),
  (42, [(5, 0, 0, 0, 42), (55, 43, 0, 0, 43)]),
  (43, [(5, 2, 0, 0, 43), (5, 1, 0, 0, 44), (64, 163, 4, 148, 45), (48, 53, 51, 0, 48)]),
  (51, [(5, 0, 0, 0, 51), (70, 0, 0, 0, 52)]),
  (53, [(2, 0, 0, 0, 53), (17, 7, 9, 20, 54), (0, 1, 0, 0, 57), (6, 21, 0, 0, 58), (0, 2, 0, 0, 60), (20, 0, 0, 0, 61), (63, 155, 2, 167, 62), (32, 0, 0, 0, 65), (70, 0, 0, 0, 66)])]
/-- CCModel.change -/
def zb_233 : List (Nat × List zO) := [
  (0, [(2, 0, 0, 0, 0), (5, 0, 0, 0, 1), (18, 7, 0, 48, 2), (2, 0, 0, 0, 5), (0, 1, 0, 0, 6), (5, 0, 0, 0, 7), (2, 0, 0, 0, 8), (17, 7, 9, 20, 9), (7, 4165, 0, 0, 12), (32, 0, 0, 0, 15), (5, 1, 0, 0, 16), (21, 0, 0, 0, 17), (63, 162, 3, 94, 18), (49, 28, 24, 0, 21)]),
  (24, [(5, 1, 0, 0, 24), (54, 29, 0, 0, 25)]),
  (28, [(5, 0, 0, 0, 28), (55, 29, 0, 0, 29)]),
  (29, [(5, 1, 0, 0, 29), (5, 0, 0, 0, 30), (64, 163, 4, 148, 31), (49, 60, 37, 0, 34)]),
  (37, [(2, 0, 0, 0, 37), (0, 2, 0, 0, 38), (5, 0, 0, 0, 39), (5, 3, 0, 0, 40), (63, 162, 3, 94, 41), (49, 51, 47, 0, 44)]),
  (47, [(5, 1, 0, 0, 47), (54, 52, 0, 0, 48)]),
  (51, [(5, 0, 0, 0, 51), (55, 52, 0, 0, 52)]),
  (52, [(5, 2, 0, 0, 52), (5, 1, 0, 0, 53), (64, 163, 4, 148, 54), (48, 62, 60, 0, 57)]),
  (60, [(5, 0, 0, 0, 60), (70, 0, 0, 0, 61)]),
  (62, [(2, 0, 0, 0, 62), (17, 7, 9, 20, 63), (7, 4166, 0, 0, 66), (5, 4, 0, 0, 69), (0, 1, 0, 0, 70), (22, 0, 0, 0, 71), (20, 0, 0, 0, 72), (0, 2, 0, 0, 73), (20, 0, 0, 0, 74), (32, 0, 0, 0, 75), (70, 0, 0, 0, 76)])]
/-- CCModel.chiefs -/
def zb_234 : List (Nat × List zO) := [
  (0, [(2, 0, 0, 0, 0), (5, 0, 0, 0, 1), (18, 7, 0, 48, 2), (5, 0, 0, 0, 5), (10, 1, 0, 0, 6), (5, 0, 0, 0, 7), (10, 2, 0, 0, 8), (55, 9, 0, 0, 9)]),
  (9, [(0, 2, 0, 0, 9), (2, 0, 0, 0, 10), (17, 7, 9, 20, 11), (5, 0, 0, 0, 14), (32, 0, 0, 0, 15), (45, 51, 19, 0, 16)]),
  (19, [(0, 1, 0, 0, 19), (2, 0, 0, 0, 20), (0, 2, 0, 0, 21), (64, 188, 2, 190, 22), (48, 42, 28, 0, 25)]),
  (28, [(2, 0, 0, 0, 28), (0, 2, 0, 0, 29), (64, 189, 2, 193, 30), (48, 42, 36, 0, 33)]),
  (36, [(5, 1, 0, 0, 36), (0, 2, 0, 0, 37), (26, 0, 0, 0, 38), (54, 43, 0, 0, 39)]),
  (42, [(5, 0, 0, 0, 42), (55, 43, 0, 0, 43)]),
  (43, [(24, 0, 0, 0, 43), (10, 1, 0, 0, 44), (15, 2, 1, 0, 45), (54, 9, 0, 0, 48)]),
  (51, [(0, 1, 0, 0, 51), (70, 0, 0, 0, 52)])]
/-- CCModel.ranked -/
def zb_235 : List (Nat × List zO) := [
  (0, [(2, 0, 0, 0, 0), (5, 0, 0, 0, 1), (18, 7, 0, 48, 2), (2, 0, 0, 0, 5), (2, 0, 0, 0, 6), (0, 1, 0, 0, 7), (64, 207, 2, 259, 8), (49, 18, 14, 0, 11)]),
  (14, [(5, 1, 0, 0, 14), (54, 19, 0, 0, 15)]),
  (18, [(5, 0, 0, 0, 18), (55, 19, 0, 0, 19)]),
  (19, [(5, 1, 0, 0, 19), (5, 0, 0, 0, 20), (64, 163, 4, 148, 21), (48, 29, 27, 0, 24)]),
  (27, [(5, 0, 0, 0, 27), (70, 0, 0, 0, 28)]),
  (29, [(2, 0, 0, 0, 29), (0, 1, 0, 0, 30), (64, 214, 2, 268, 31), (10, 3, 0, 0, 34), (5, 0, 0, 0, 35), (11, 4, 0, 0, 36), (55, 38, 0, 0, 38)]),
  (38, [(1, 4, 0, 0, 38), (2, 0, 0, 0, 40), (17, 7, 9, 20, 41), (5, 0, 0, 0, 44), (32, 0, 0, 0, 45), (45, 78, 49, 0, 46)]),
  (49, [(0, 3, 0, 0, 49), (1, 4, 0, 0, 50), (63, 175, 2, 132, 52), (48, 72, 58, 0, 55)]),
  (58, [(2, 0, 0, 0, 58), (1, 4, 0, 0, 59), (0, 3, 0, 0, 61), (64, 196, 3, 220, 62), (0, 2, 0, 0, 65), (43, 72, 69, 0, 66)]),
  (69, [(1, 4, 0, 0, 69), (70, 0, 0, 0, 71)]),
  (72, [(15, 4, 1, 0, 72), (54, 38, 0, 0, 75)]),
  (78, [(5, 4294967295, 0, 0, 78), (70, 0, 0, 0, 79)])]
/-- CCModel.until -/
def zb_236 : List (Nat × List zO) := [
  (0, [(2, 0, 0, 0, 0), (5, 0, 0, 0, 1), (18, 7, 0, 48, 2), (2, 0, 0, 0, 5), (17, 7, 9, 20, 6), (2, 0, 0, 0, 9), (17, 7, 11, 26, 10), (63, 152, 2, 160, 13), (2, 0, 0, 0, 16), (64, 237, 1, 308, 17), (10, 1, 0, 0, 20), (2, 0, 0, 0, 21), (17, 7, 11, 26, 22), (2, 0, 0, 0, 25), (17, 7, 9, 20, 26), (63, 152, 2, 160, 29), (0, 1, 0, 0, 32), (70, 0, 0, 0, 33)])]
/-- CCModel.untilNow -/
def zb_237 : List (Nat × List zO) := [
  (0, [(5, 0, 0, 0, 0), (10, 1, 0, 0, 1), (55, 2, 0, 0, 2)]),
  (2, [(0, 1, 0, 0, 2), (7, 300, 0, 0, 3), (46, 35, 9, 0, 6)]),
  (9, [(2, 0, 0, 0, 9), (64, 218, 1, 289, 10), (48, 18, 16, 0, 13)]),
  (16, [(0, 1, 0, 0, 16), (70, 0, 0, 0, 17)]),
  (18, [(0, 1, 0, 0, 18), (7, 300, 0, 0, 19), (45, 29, 25, 0, 22)]),
  (25, [(2, 0, 0, 0, 25), (64, 182, 1, 241, 26), (55, 29, 0, 0, 29)]),
  (29, [(15, 1, 1, 0, 29), (54, 2, 0, 0, 32)]),
  (35, [(5, 4294967295, 0, 0, 35), (70, 0, 0, 0, 36)])]
/-- CCModel.untilBy -/
def zb_238 : List (Nat × List zO) := [
  (0, [(2, 0, 0, 0, 0), (5, 0, 0, 0, 1), (18, 7, 0, 48, 2), (2, 0, 0, 0, 5), (2, 0, 0, 0, 6), (0, 1, 0, 0, 7), (64, 207, 2, 259, 8), (49, 18, 14, 0, 11)]),
  (14, [(5, 1, 0, 0, 14), (54, 19, 0, 0, 15)]),
  (18, [(5, 0, 0, 0, 18), (55, 19, 0, 0, 19)]),
  (19, [(5, 1, 0, 0, 19), (5, 0, 0, 0, 20), (64, 163, 4, 148, 21), (48, 29, 27, 0, 24)]),
  (27, [(5, 0, 0, 0, 27), (70, 0, 0, 0, 28)]),
  (29, [(2, 0, 0, 0, 29), (0, 1, 0, 0, 30), (64, 239, 2, 311, 31), (70, 0, 0, 0, 34)])]
/-- CCModel.untilFall -/
def zb_239 : List (Nat × List zO) := [
  (0, [(2, 0, 0, 0, 0), (17, 7, 9, 20, 1), (2, 0, 0, 0, 4), (17, 7, 11, 26, 5), (63, 152, 2, 160, 8), (2, 0, 0, 0, 11), (0, 1, 0, 0, 12), (64, 186, 2, 211, 13), (48, 27, 19, 0, 16)]),
  (19, [(2, 0, 0, 0, 19), (0, 1, 0, 0, 20), (64, 153, 2, 164, 21), (54, 33, 0, 0, 24)]),
  (27, [(2, 0, 0, 0, 27), (0, 1, 0, 0, 28), (64, 208, 2, 262, 29), (41, 0, 0, 0, 32), (55, 33, 0, 0, 33)]),
  (33, [(2, 0, 0, 0, 33), (64, 237, 1, 308, 34), (10, 2, 0, 0, 37), (2, 0, 0, 0, 38), (17, 7, 11, 26, 39), (2, 0, 0, 0, 42), (17, 7, 9, 20, 43), (63, 152, 2, 160, 46), (0, 2, 0, 0, 49), (70, 0, 0, 0, 50)])]
/-- CCModel.hardest -/
def zb_240 : List (Nat × List zO) := [
  (0, [(2, 0, 0, 0, 0), (5, 0, 0, 0, 1), (18, 7, 0, 48, 2), (2, 0, 0, 0, 5), (0, 1, 0, 0, 6), (5, 0, 0, 0, 7), (5, 1, 0, 0, 8), (63, 162, 3, 94, 9), (49, 19, 15, 0, 12)]),
  (15, [(5, 1, 0, 0, 15), (54, 20, 0, 0, 16)]),
  (19, [(5, 0, 0, 0, 19), (55, 20, 0, 0, 20)]),
  (20, [(5, 1, 0, 0, 20), (5, 1, 0, 0, 21), (64, 163, 4, 148, 22), (48, 30, 28, 0, 25)]),
  (28, [(5, 0, 0, 0, 28), (70, 0, 0, 0, 29)]),
  (30, [(5, 4294967295, 0, 0, 30), (10, 2, 0, 0, 31), (5, 4294967295, 0, 0, 32), (10, 3, 0, 0, 33), (5, 0, 0, 0, 34), (11, 4, 0, 0, 35), (55, 37, 0, 0, 37)]),
  (37, [(1, 4, 0, 0, 37), (2, 0, 0, 0, 39), (17, 7, 9, 20, 40), (5, 0, 0, 0, 43), (32, 0, 0, 0, 44), (45, 110, 48, 0, 45)]),
  (48, [(2, 0, 0, 0, 48), (1, 4, 0, 0, 49), (64, 186, 2, 211, 51), (48, 60, 57, 0, 54)]),
  (57, [(54, 104, 0, 0, 57)]),
  (60, [(2, 0, 0, 0, 60), (1, 4, 0, 0, 61), (64, 239, 2, 311, 63), (11, 5, 0, 0, 66), (1, 5, 0, 0, 68), (5, 4294967295, 0, 0, 70), (43, 80, 74, 0, 71)]),
  (74, [(7, 301, 0, 0, 74), (54, 82, 0, 0, 77)]),
  (80, [(1, 5, 0, 0, 80), (55, 82, 0, 0, 82)]),
  (82, [(11, 6, 0, 0, 82), (0, 2, 0, 0, 84), (5, 4294967295, 0, 0, 85), (42, 98, 89, 0, 86)]),
  (89, [(1, 6, 0, 0, 89), (0, 3, 0, 0, 91), (46, 98, 95, 0, 92)]),
  (95, [(54, 104, 0, 0, 95)]),
  (98, [(1, 4, 0, 0, 98), (10, 2, 0, 0, 100), (1, 6, 0, 0, 101), (10, 3, 0, 0, 103), (55, 104, 0, 0, 104)]),
  (104, [(15, 4, 1, 0, 104), (54, 37, 0, 0, 107)]),
  (110, [(0, 1, 0, 0, 110), (49, 118, 114, 0, 111)]),
  (114, [(0, 2, 0, 0, 114), (54, 130, 0, 0, 115)]),
  (118, [(0, 3, 0, 0, 118), (7, 300, 0, 0, 119), (47, 129, 125, 0, 122)]),
  (125, [(5, 4294967295, 0, 0, 125), (54, 130, 0, 0, 126)]),
  (129, [(0, 3, 0, 0, 129), (55, 130, 0, 0, 130)]),
  (130, [(70, 0, 0, 0, 130)])]
/-- CCModel.untilRule -/
def zb_241 : List (Nat × List zO) := [
  (0, [(2, 0, 0, 0, 0), (5, 0, 0, 0, 1), (18, 7, 0, 48, 2), (2, 0, 0, 0, 5), (0, 1, 0, 0, 6), (0, 2, 0, 0, 7), (63, 211, 2, 265, 8), (49, 18, 14, 0, 11)]),
  (14, [(5, 1, 0, 0, 14), (54, 19, 0, 0, 15)]),
  (18, [(5, 0, 0, 0, 18), (55, 19, 0, 0, 19)]),
  (19, [(5, 1, 0, 0, 19), (5, 1, 0, 0, 20), (64, 163, 4, 148, 21), (48, 29, 27, 0, 24)]),
  (27, [(5, 0, 0, 0, 27), (70, 0, 0, 0, 28)]),
  (29, [(2, 0, 0, 0, 29), (17, 7, 9, 20, 30), (2, 0, 0, 0, 33), (17, 7, 11, 26, 34), (63, 152, 2, 160, 37), (2, 0, 0, 0, 40), (17, 7, 9, 20, 41), (5, 2, 0, 0, 44), (0, 1, 0, 0, 45), (20, 0, 0, 0, 46), (0, 2, 0, 0, 47), (33, 0, 0, 0, 48), (2, 0, 0, 0, 49), (64, 237, 1, 308, 50), (10, 3, 0, 0, 53), (2, 0, 0, 0, 54), (17, 7, 11, 26, 55), (2, 0, 0, 0, 58), (17, 7, 9, 20, 59), (63, 152, 2, 160, 62), (0, 3, 0, 0, 65), (70, 0, 0, 0, 66)])]
/-- CCModel.untilLinks -/
def zb_242 : List (Nat × List zO) := [
  (0, [(2, 0, 0, 0, 0), (5, 0, 0, 0, 1), (18, 7, 0, 48, 2), (2, 0, 0, 0, 5), (0, 1, 0, 0, 6), (5, 0, 0, 0, 7), (5, 1, 0, 0, 8), (63, 162, 3, 94, 9), (48, 28, 15, 0, 12)]),
  (15, [(0, 1, 0, 0, 15), (5, 1, 0, 0, 16), (43, 32, 20, 0, 17)]),
  (20, [(2, 0, 0, 0, 20), (0, 2, 0, 0, 21), (64, 202, 2, 250, 22), (49, 32, 28, 0, 25)]),
  (28, [(5, 1, 0, 0, 28), (54, 33, 0, 0, 29)]),
  (32, [(5, 0, 0, 0, 32), (55, 33, 0, 0, 33)]),
  (33, [(5, 1, 0, 0, 33), (5, 1, 0, 0, 34), (64, 163, 4, 148, 35), (48, 43, 41, 0, 38)]),
  (41, [(5, 0, 0, 0, 41), (70, 0, 0, 0, 42)]),
  (43, [(2, 0, 0, 0, 43), (17, 7, 9, 20, 44), (2, 0, 0, 0, 47), (17, 7, 11, 26, 48), (63, 152, 2, 160, 51), (0, 1, 0, 0, 54), (49, 65, 58, 0, 55)]),
  (58, [(2, 0, 0, 0, 58), (64, 205, 1, 256, 59), (54, 70, 0, 0, 62)]),
  (65, [(2, 0, 0, 0, 65), (0, 2, 0, 0, 66), (64, 203, 2, 253, 67), (55, 70, 0, 0, 70)]),
  (70, [(10, 3, 0, 0, 70), (2, 0, 0, 0, 71), (64, 237, 1, 308, 72), (11, 4, 0, 0, 75), (2, 0, 0, 0, 77), (17, 7, 11, 26, 78), (2, 0, 0, 0, 81), (17, 7, 9, 20, 82), (63, 152, 2, 160, 85), (1, 4, 0, 0, 88), (70, 0, 0, 0, 90)])]
/-- CCModel.ahead -/
def zb_243 : List (Nat × List zO) := [
  (0, [(2, 0, 0, 0, 0), (5, 0, 0, 0, 1), (18, 7, 0, 48, 2), (2, 0, 0, 0, 5), (0, 1, 0, 0, 6), (5, 1, 0, 0, 7), (6, 100, 0, 0, 8), (63, 162, 3, 94, 10), (48, 25, 16, 0, 13)]),
  (16, [(0, 2, 0, 0, 16), (5, 0, 0, 0, 17), (5, 4, 0, 0, 18), (63, 162, 3, 94, 19), (49, 29, 25, 0, 22)]),
  (25, [(5, 1, 0, 0, 25), (54, 30, 0, 0, 26)]),
  (29, [(5, 0, 0, 0, 29), (55, 30, 0, 0, 30)]),
  (30, [(5, 1, 0, 0, 30), (5, 1, 0, 0, 31), (64, 163, 4, 148, 32), (48, 40, 38, 0, 35)]),
  (38, [(5, 0, 0, 0, 38), (70, 0, 0, 0, 39)]),
  (40, [(2, 0, 0, 0, 40), (17, 7, 9, 20, 41), (2, 0, 0, 0, 44), (17, 7, 11, 26, 45), (63, 152, 2, 160, 48), (2, 0, 0, 0, 51), (0, 1, 0, 0, 52), (64, 181, 2, 247, 53), (10, 3, 0, 0, 56), (0, 2, 0, 0, 57), (49, 68, 61, 0, 58)]),
  (61, [(2, 0, 0, 0, 61), (64, 213, 1, 283, 62), (54, 108, 0, 0, 65)]),
  (68, [(0, 2, 0, 0, 68), (5, 1, 0, 0, 69), (43, 80, 73, 0, 70)]),
  (73, [(2, 0, 0, 0, 73), (64, 220, 1, 295, 74), (54, 108, 0, 0, 77)]),
  (80, [(0, 2, 0, 0, 80), (5, 2, 0, 0, 81), (43, 95, 85, 0, 82)]),
  (85, [(2, 0, 0, 0, 85), (17, 7, 9, 20, 86), (6, 7, 0, 0, 89), (32, 0, 0, 0, 91), (54, 108, 0, 0, 92)]),
  (95, [(0, 2, 0, 0, 95), (5, 3, 0, 0, 96), (43, 104, 100, 0, 97)]),
  (100, [(0, 3, 0, 0, 100), (54, 108, 0, 0, 101)]),
  (104, [(2, 0, 0, 0, 104), (64, 244, 1, 314, 105), (55, 108, 0, 0, 108)]),
  (108, [(11, 4, 0, 0, 108), (2, 0, 0, 0, 110), (17, 7, 11, 26, 111), (2, 0, 0, 0, 114), (17, 7, 9, 20, 115), (63, 152, 2, 160, 118), (1, 4, 0, 0, 121), (70, 0, 0, 0, 123)])]
/-- CCModel.commonChief -/
def zb_244 : List (Nat × List zO) := [
  (0, [(5, 4294967295, 0, 0, 0), (10, 1, 0, 0, 1), (5, 0, 0, 0, 2), (10, 2, 0, 0, 3), (5, 0, 0, 0, 4), (10, 3, 0, 0, 5), (55, 6, 0, 0, 6)]),
  (6, [(0, 3, 0, 0, 6), (2, 0, 0, 0, 7), (17, 7, 9, 20, 8), (5, 0, 0, 0, 11), (32, 0, 0, 0, 12), (45, 93, 16, 0, 13)]),
  (16, [(5, 0, 0, 0, 16), (11, 4, 0, 0, 17), (5, 0, 0, 0, 19), (11, 5, 0, 0, 20), (55, 22, 0, 0, 22)]),
  (22, [(1, 5, 0, 0, 22), (2, 0, 0, 0, 24), (17, 7, 9, 20, 25), (5, 0, 0, 0, 28), (32, 0, 0, 0, 29), (45, 73, 33, 0, 30)]),
  (33, [(1, 4, 0, 0, 33), (2, 0, 0, 0, 35), (1, 5, 0, 0, 36), (64, 188, 2, 190, 38), (48, 63, 44, 0, 41)]),
  (44, [(2, 0, 0, 0, 44), (17, 7, 9, 20, 45), (1, 5, 0, 0, 48), (5, 1, 0, 0, 50), (63, 155, 2, 167, 51), (32, 0, 0, 0, 54), (0, 3, 0, 0, 55), (43, 63, 59, 0, 56)]),
  (59, [(5, 1, 0, 0, 59), (54, 64, 0, 0, 60)]),
  (63, [(5, 0, 0, 0, 63), (55, 64, 0, 0, 64)]),
  (64, [(20, 0, 0, 0, 64), (11, 4, 0, 0, 65), (15, 5, 1, 0, 67), (54, 22, 0, 0, 70)]),
  (73, [(1, 4, 0, 0, 73), (0, 2, 0, 0, 75), (46, 82, 79, 0, 76)]),
  (79, [(54, 87, 0, 0, 79)]),
  (82, [(0, 3, 0, 0, 82), (10, 1, 0, 0, 83), (1, 4, 0, 0, 84), (10, 2, 0, 0, 86), (55, 87, 0, 0, 87)]),
  (87, [(15, 3, 1, 0, 87), (54, 6, 0, 0, 90)]),
  (93, [(0, 1, 0, 0, 93), (70, 0, 0, 0, 94)])]
/-- CCModel.storms -/
def zb_245 : List (Nat × List zO) := [
  (0, [(2, 0, 0, 0, 0), (5, 0, 0, 0, 1), (18, 7, 0, 48, 2), (2, 0, 0, 0, 5), (0, 1, 0, 0, 6), (5, 1, 0, 0, 7), (6, 20, 0, 0, 8), (63, 162, 3, 94, 10), (48, 25, 16, 0, 13)]),
  (16, [(0, 3, 0, 0, 16), (5, 0, 0, 0, 17), (5, 2, 0, 0, 18), (63, 162, 3, 94, 19), (49, 29, 25, 0, 22)]),
  (25, [(5, 1, 0, 0, 25), (54, 30, 0, 0, 26)]),
  (29, [(5, 0, 0, 0, 29), (55, 30, 0, 0, 30)]),
  (30, [(5, 1, 0, 0, 30), (5, 1, 0, 0, 31), (64, 163, 4, 148, 32), (48, 40, 38, 0, 35)]),
  (38, [(5, 0, 0, 0, 38), (70, 0, 0, 0, 39)]),
  (40, [(2, 0, 0, 0, 40), (17, 7, 9, 20, 41), (2, 0, 0, 0, 44), (17, 7, 12, 29, 45), (63, 152, 2, 160, 48), (5, 0, 0, 0, 51), (11, 4, 0, 0, 52), (5, 0, 0, 0, 54), (11, 5, 0, 0, 55), (5, 0, 0, 0, 57), (11, 6, 0, 0, 58), (5, 0, 0, 0, 60), (11, 7, 0, 0, 61), (55, 63, 0, 0, 63)]),
  (63, [(1, 7, 0, 0, 63), (0, 1, 0, 0, 65), (45, 124, 69, 0, 66)]),
  (69, [(2, 0, 0, 0, 69), (0, 2, 0, 0, 70), (1, 7, 0, 0, 71), (20, 0, 0, 0, 73), (64, 246, 2, 324, 74), (11, 8, 0, 0, 77), (2, 0, 0, 0, 79), (17, 7, 12, 29, 80), (2, 0, 0, 0, 83), (17, 7, 9, 20, 84), (63, 152, 2, 160, 87), (1, 8, 0, 0, 90), (5, 4294967295, 0, 0, 92), (43, 99, 96, 0, 93)]),
  (96, [(54, 118, 0, 0, 96)]),
  (99, [(15, 4, 1, 0, 99), (1, 5, 0, 0, 102), (1, 8, 0, 0, 104), (63, 194, 2, 187, 106), (11, 5, 0, 0, 109), (1, 6, 0, 0, 111), (1, 8, 0, 0, 113), (20, 0, 0, 0, 115), (11, 6, 0, 0, 116), (55, 118, 0, 0, 118)]),
  (118, [(15, 7, 1, 0, 118), (54, 63, 0, 0, 121)]),
  (124, [(0, 3, 0, 0, 124), (49, 133, 128, 0, 125)]),
  (128, [(1, 4, 0, 0, 128), (54, 145, 0, 0, 130)]),
  (133, [(0, 3, 0, 0, 133), (5, 1, 0, 0, 134), (43, 143, 138, 0, 135)]),
  (138, [(1, 5, 0, 0, 138), (54, 145, 0, 0, 140)]),
  (143, [(1, 6, 0, 0, 143), (55, 145, 0, 0, 145)]),
  (145, [(70, 0, 0, 0, 145)])]
/-- CCModel.storm -/
def zb_246 : List (Nat × List zO) := [
  (0, [(2, 0, 0, 0, 0), (0, 1, 0, 0, 1), (18, 7, 19, 318, 2), (5, 0, 0, 0, 5), (10, 2, 0, 0, 6), (55, 7, 0, 0, 7)]),
  (7, [(0, 2, 0, 0, 7), (6, 8, 0, 0, 8), (45, 112, 13, 0, 10)]),
  (13, [(2, 0, 0, 0, 13), (5, 4, 0, 0, 14), (64, 247, 2, 321, 15), (10, 3, 0, 0, 18), (0, 3, 0, 0, 19), (49, 63, 23, 0, 20)]),
  (23, [(2, 0, 0, 0, 23), (2, 0, 0, 0, 24), (17, 7, 9, 20, 25), (5, 0, 0, 0, 28), (32, 0, 0, 0, 29), (64, 247, 2, 321, 30), (11, 4, 0, 0, 33), (2, 0, 0, 0, 35), (1, 4, 0, 0, 36), (64, 186, 2, 211, 38), (48, 53, 44, 0, 41)]),
  (44, [(2, 0, 0, 0, 44), (1, 4, 0, 0, 45), (64, 153, 2, 164, 47), (54, 60, 0, 0, 50)]),
  (53, [(2, 0, 0, 0, 53), (1, 4, 0, 0, 54), (64, 208, 2, 262, 56), (41, 0, 0, 0, 59), (55, 60, 0, 0, 60)]),
  (60, [(54, 93, 0, 0, 60)]),
  (63, [(0, 3, 0, 0, 63), (5, 1, 0, 0, 64), (43, 88, 68, 0, 65)]),
  (68, [(2, 0, 0, 0, 68), (2, 0, 0, 0, 69), (5, 1, 0, 0, 70), (2, 0, 0, 0, 71), (17, 7, 9, 20, 72), (5, 0, 0, 0, 75), (32, 0, 0, 0, 76), (26, 0, 0, 0, 77), (64, 247, 2, 321, 78), (64, 203, 2, 253, 81), (41, 0, 0, 0, 84), (54, 93, 0, 0, 85)]),
  (88, [(2, 0, 0, 0, 88), (64, 205, 1, 256, 89), (41, 0, 0, 0, 92), (55, 93, 0, 0, 93)]),
  (93, [(2, 0, 0, 0, 93), (2, 0, 0, 0, 94), (6, 12, 0, 0, 95), (64, 247, 2, 321, 97), (5, 1, 0, 0, 100), (20, 0, 0, 0, 101), (64, 181, 2, 247, 102), (41, 0, 0, 0, 105), (15, 2, 1, 0, 106), (54, 7, 0, 0, 109)]),
  (112, [(2, 0, 0, 0, 112), (64, 205, 1, 256, 113), (41, 0, 0, 0, 116), (5, 0, 0, 0, 117), (10, 2, 0, 0, 118), (55, 119, 0, 0, 119)]),
  (119, [(0, 2, 0, 0, 119), (2, 0, 0, 0, 120), (17, 7, 9, 20, 121), (5, 0, 0, 0, 124), (32, 0, 0, 0, 125), (45, 148, 129, 0, 126)]),
  (129, [(2, 0, 0, 0, 129), (0, 2, 0, 0, 130), (64, 186, 2, 211, 131), (48, 142, 137, 0, 134)]),
  (137, [(2, 0, 0, 0, 137), (0, 2, 0, 0, 138), (64, 153, 2, 164, 139), (55, 142, 0, 0, 142)]),
  (142, [(15, 2, 1, 0, 142), (54, 119, 0, 0, 145)]),
  (148, [(2, 0, 0, 0, 148), (64, 237, 1, 308, 149), (70, 0, 0, 0, 152)])]
/-- CCModel.draw -/
def zb_247 : List (Nat × List zO) := [
  (0, [(2, 0, 0, 0, 0), (9, 1103515245, 0, 317, 1), (2, 0, 0, 0, 4), (16, 7, 19, 318, 5), (22, 0, 0, 0, 8), (7, 12345, 0, 0, 9), (20, 0, 0, 0, 12), (18, 7, 19, 318, 13), (2, 0, 0, 0, 16), (16, 7, 19, 318, 17), (6, 16, 0, 0, 20), (28, 0, 0, 0, 22), (0, 1, 0, 0, 23), (30, 0, 0, 0, 24), (70, 0, 0, 0, 25)])]
/-- CCModel.print -/
def zb_248 : List (Nat × List zO) := [
  (0, [(2, 0, 0, 0, 0), (5, 0, 0, 0, 1), (18, 7, 0, 48, 2), (62, 0, 0, 0, 5), (14, 1, 0, 0, 6), (5, 0, 0, 0, 7), (10, 3, 0, 0, 8), (55, 9, 0, 0, 9)]),
  (9, [(0, 3, 0, 0, 9), (2, 0, 0, 0, 10), (17, 7, 9, 20, 11), (5, 0, 0, 0, 14), (32, 0, 0, 0, 15), (45, 76, 19, 0, 16)]),
  (19, [(61, 31, 0, 327, 19), (61, 31, 0, 327, 22), (61, 31, 0, 327, 25), (4, 1, 0, 0, 28), (59, 0, 0, 0, 29), (2, 0, 0, 0, 30), (17, 7, 9, 20, 31), (0, 3, 0, 0, 34), (5, 3, 0, 0, 35), (63, 155, 2, 167, 36), (32, 0, 0, 0, 39), (57, 0, 0, 0, 40), (58, 0, 0, 0, 41), (59, 0, 0, 0, 42), (2, 0, 0, 0, 43), (17, 7, 9, 20, 44), (0, 3, 0, 0, 47), (5, 4, 0, 0, 48), (63, 155, 2, 167, 49), (32, 0, 0, 0, 52), (57, 0, 0, 0, 53), (58, 0, 0, 0, 54), (59, 0, 0, 0, 55), (2, 0, 0, 0, 56), (17, 7, 9, 20, 57), (0, 3, 0, 0, 60), (6, 6, 0, 0, 61), (63, 155, 2, 167, 63), (32, 0, 0, 0, 66), (57, 0, 0, 0, 67), (58, 0, 0, 0, 68), (14, 1, 0, 0, 69), (15, 3, 1, 0, 70), (54, 9, 0, 0, 73)]),
  (76, [(4, 1, 0, 0, 76), (71, 0, 0, 0, 77)])]
/-- CCModel.status -/
def zb_249 : List (Nat × List zO) := [
  (0, [(2, 0, 0, 0, 0), (5, 0, 0, 0, 1), (18, 7, 0, 48, 2), (0, 1, 0, 0, 5), (5, 0, 0, 0, 6), (5, 2, 0, 0, 7), (63, 162, 3, 94, 8), (48, 23, 14, 0, 11)]),
  (14, [(2, 0, 0, 0, 14), (17, 7, 1, 9, 15), (0, 1, 0, 0, 18), (32, 0, 0, 0, 19), (54, 24, 0, 0, 20)]),
  (23, [(5, 4294967295, 0, 0, 23), (55, 24, 0, 0, 24)]),
  (24, [(70, 0, 0, 0, 24)])]
set_option maxRecDepth 20000 in
/-- CCLaw.law -/
def zb_250 : List (Nat × List zO) := [
  (0, [(73, 6, 0, 8, 0), (39, 0, 0, 0, 3), (65, 0, 1, 85, 4), (12, 1, 0, 0, 7), (73, 7, 0, 86, 8), (39, 0, 0, 0, 11), (65, 149, 1, 88, 12), (12, 2, 0, 0, 15), (5, 1, 0, 0, 16), (75, 0, 0, 0, 17), (12, 3, 0, 0, 19), (5, 0, 0, 0, 20), (11, 4, 0, 0, 21), (55, 23, 0, 0, 23)]),
  (23, [(1, 4, 0, 0, 23), (2, 0, 0, 0, 25), (36, 0, 0, 0, 26), (6, 6, 0, 0, 27), (21, 0, 0, 0, 29), (46, 1790, 33, 0, 30)]),
  (33, [(2, 0, 0, 0, 33), (1, 4, 0, 0, 34), (32, 0, 0, 0, 36), (6, 31, 0, 0, 37), (23, 0, 0, 0, 39), (56, 11, 0, 136, 40)]),
  (176, [(2, 1, 0, 0, 176), (2, 0, 0, 0, 177), (1, 4, 0, 0, 178), (5, 1, 0, 0, 180), (20, 0, 0, 0, 181), (32, 0, 0, 0, 182), (2, 0, 0, 0, 183), (1, 4, 0, 0, 184), (5, 2, 0, 0, 186), (20, 0, 0, 0, 187), (32, 0, 0, 0, 188), (2, 0, 0, 0, 189), (1, 4, 0, 0, 190), (5, 3, 0, 0, 192), (20, 0, 0, 0, 193), (32, 0, 0, 0, 194), (2, 0, 0, 0, 195), (1, 4, 0, 0, 196), (5, 4, 0, 0, 198), (20, 0, 0, 0, 199), (32, 0, 0, 0, 200), (2, 0, 0, 0, 201), (1, 4, 0, 0, 202), (5, 5, 0, 0, 204), (20, 0, 0, 0, 205), (32, 0, 0, 0, 206), (64, 20, 6, 89, 207), (2, 2, 0, 0, 210), (2, 0, 0, 0, 211), (1, 4, 0, 0, 212), (5, 1, 0, 0, 214), (20, 0, 0, 0, 215), (32, 0, 0, 0, 216), (2, 0, 0, 0, 217), (1, 4, 0, 0, 218), (5, 2, 0, 0, 220), (20, 0, 0, 0, 221), (32, 0, 0, 0, 222), (2, 0, 0, 0, 223), (1, 4, 0, 0, 224), (5, 3, 0, 0, 226), (20, 0, 0, 0, 227), (32, 0, 0, 0, 228), (2, 0, 0, 0, 229), (1, 4, 0, 0, 230), (5, 4, 0, 0, 232), (20, 0, 0, 0, 233), (32, 0, 0, 0, 234), (2, 0, 0, 0, 235), (1, 4, 0, 0, 236), (5, 5, 0, 0, 238), (20, 0, 0, 0, 239), (32, 0, 0, 0, 240), (64, 160, 6, 93, 241), (42, 1784, 247, 0, 244)]),
  (247, [(5, 0, 0, 0, 247), (72, 0, 0, 0, 248)]),
  (249, [(2, 1, 0, 0, 249), (2, 0, 0, 0, 250), (1, 4, 0, 0, 251), (5, 1, 0, 0, 253), (20, 0, 0, 0, 254), (32, 0, 0, 0, 255), (2, 3, 0, 0, 256), (67, 59, 3, 94, 257), (11, 5, 0, 0, 260), (2, 2, 0, 0, 262), (2, 0, 0, 0, 263), (1, 4, 0, 0, 264), (5, 1, 0, 0, 266), (20, 0, 0, 0, 267), (32, 0, 0, 0, 268), (64, 161, 2, 99, 269), (11, 6, 0, 0, 272), (2, 2, 0, 0, 274), (64, 159, 1, 100, 275), (1, 5, 0, 0, 278), (42, 285, 283, 0, 280)]),
  (283, [(5, 0, 0, 0, 283), (72, 0, 0, 0, 284)]),
  (285, [(1, 5, 0, 0, 285), (49, 302, 290, 0, 287)]),
  (290, [(2, 3, 0, 0, 290), (5, 0, 0, 0, 291), (37, 0, 0, 0, 292), (1, 6, 0, 0, 293), (57, 0, 0, 0, 295), (60, 0, 0, 0, 296), (48, 302, 300, 0, 297)]),
  (300, [(5, 0, 0, 0, 300), (72, 0, 0, 0, 301)]),
  (302, [(54, 1784, 0, 0, 302)]),
  (305, [(2, 1, 0, 0, 305), (64, 22, 1, 104, 306), (2, 2, 0, 0, 309), (64, 177, 1, 107, 310), (42, 1784, 316, 0, 313)]),
  (316, [(5, 0, 0, 0, 316), (72, 0, 0, 0, 317)]),
  (318, [(2, 1, 0, 0, 318), (2, 0, 0, 0, 319), (1, 4, 0, 0, 320), (5, 1, 0, 0, 322), (20, 0, 0, 0, 323), (32, 0, 0, 0, 324), (2, 3, 0, 0, 325), (67, 76, 3, 108, 326), (11, 5, 0, 0, 329), (2, 2, 0, 0, 331), (2, 0, 0, 0, 332), (1, 4, 0, 0, 333), (5, 1, 0, 0, 335), (20, 0, 0, 0, 336), (32, 0, 0, 0, 337), (64, 179, 2, 110, 338), (11, 6, 0, 0, 341), (2, 2, 0, 0, 343), (64, 159, 1, 100, 344), (1, 5, 0, 0, 347), (42, 354, 352, 0, 349)]),
  (352, [(5, 0, 0, 0, 352), (72, 0, 0, 0, 353)]),
  (354, [(1, 5, 0, 0, 354), (49, 371, 359, 0, 356)]),
  (359, [(2, 3, 0, 0, 359), (5, 0, 0, 0, 360), (37, 0, 0, 0, 361), (1, 6, 0, 0, 362), (57, 0, 0, 0, 364), (60, 0, 0, 0, 365), (48, 371, 369, 0, 366)]),
  (369, [(5, 0, 0, 0, 369), (72, 0, 0, 0, 370)]),
  (371, [(54, 1784, 0, 0, 371)]),
  (374, [(2, 1, 0, 0, 374), (2, 0, 0, 0, 375), (1, 4, 0, 0, 376), (5, 1, 0, 0, 378), (20, 0, 0, 0, 379), (32, 0, 0, 0, 380), (2, 3, 0, 0, 381), (67, 82, 3, 111, 382), (11, 5, 0, 0, 385), (2, 2, 0, 0, 387), (2, 0, 0, 0, 388), (1, 4, 0, 0, 389), (5, 1, 0, 0, 391), (20, 0, 0, 0, 392), (32, 0, 0, 0, 393), (64, 201, 2, 113, 394), (11, 6, 0, 0, 397), (2, 2, 0, 0, 399), (64, 159, 1, 100, 400), (1, 5, 0, 0, 403), (42, 410, 408, 0, 405)]),
  (408, [(5, 0, 0, 0, 408), (72, 0, 0, 0, 409)]),
  (410, [(1, 5, 0, 0, 410), (49, 427, 415, 0, 412)]),
  (415, [(2, 3, 0, 0, 415), (5, 0, 0, 0, 416), (37, 0, 0, 0, 417), (1, 6, 0, 0, 418), (57, 0, 0, 0, 420), (60, 0, 0, 0, 421), (48, 427, 425, 0, 422)]),
  (425, [(5, 0, 0, 0, 425), (72, 0, 0, 0, 426)]),
  (427, [(54, 1784, 0, 0, 427)]),
  (430, [(2, 1, 0, 0, 430), (64, 23, 1, 114, 431), (2, 2, 0, 0, 434), (64, 204, 1, 117, 435), (42, 1784, 441, 0, 438)]),
  (441, [(5, 0, 0, 0, 441), (72, 0, 0, 0, 442)]),
  (443, [(2, 1, 0, 0, 443), (2, 0, 0, 0, 444), (1, 4, 0, 0, 445), (5, 1, 0, 0, 447), (20, 0, 0, 0, 448), (32, 0, 0, 0, 449), (2, 3, 0, 0, 450), (67, 86, 3, 118, 451), (11, 5, 0, 0, 454), (2, 2, 0, 0, 456), (2, 0, 0, 0, 457), (1, 4, 0, 0, 458), (5, 1, 0, 0, 460), (20, 0, 0, 0, 461), (32, 0, 0, 0, 462), (64, 206, 2, 120, 463), (11, 6, 0, 0, 466), (2, 2, 0, 0, 468), (64, 159, 1, 100, 469), (1, 5, 0, 0, 472), (42, 479, 477, 0, 474)]),
  (477, [(5, 0, 0, 0, 477), (72, 0, 0, 0, 478)]),
  (479, [(1, 5, 0, 0, 479), (49, 496, 484, 0, 481)]),
  (484, [(2, 3, 0, 0, 484), (5, 0, 0, 0, 485), (37, 0, 0, 0, 486), (1, 6, 0, 0, 487), (57, 0, 0, 0, 489), (60, 0, 0, 0, 490), (48, 496, 494, 0, 491)]),
  (494, [(5, 0, 0, 0, 494), (72, 0, 0, 0, 495)]),
  (496, [(54, 1784, 0, 0, 496)]),
  (499, [(2, 1, 0, 0, 499), (2, 0, 0, 0, 500), (1, 4, 0, 0, 501), (5, 1, 0, 0, 503), (20, 0, 0, 0, 504), (32, 0, 0, 0, 505), (2, 3, 0, 0, 506), (67, 93, 3, 121, 507), (11, 5, 0, 0, 510), (2, 2, 0, 0, 512), (2, 0, 0, 0, 513), (1, 4, 0, 0, 514), (5, 1, 0, 0, 516), (20, 0, 0, 0, 517), (32, 0, 0, 0, 518), (64, 209, 2, 123, 519), (11, 6, 0, 0, 522), (2, 2, 0, 0, 524), (64, 159, 1, 100, 525), (1, 5, 0, 0, 528), (42, 535, 533, 0, 530)]),
  (533, [(5, 0, 0, 0, 533), (72, 0, 0, 0, 534)]),
  (535, [(1, 5, 0, 0, 535), (49, 552, 540, 0, 537)]),
  (540, [(2, 3, 0, 0, 540), (5, 0, 0, 0, 541), (37, 0, 0, 0, 542), (1, 6, 0, 0, 543), (57, 0, 0, 0, 545), (60, 0, 0, 0, 546), (48, 552, 550, 0, 547)]),
  (550, [(5, 0, 0, 0, 550), (72, 0, 0, 0, 551)]),
  (552, [(54, 1784, 0, 0, 552)]),
  (555, [(2, 1, 0, 0, 555), (2, 0, 0, 0, 556), (1, 4, 0, 0, 557), (5, 1, 0, 0, 559), (20, 0, 0, 0, 560), (32, 0, 0, 0, 561), (2, 0, 0, 0, 562), (1, 4, 0, 0, 563), (5, 2, 0, 0, 565), (20, 0, 0, 0, 566), (32, 0, 0, 0, 567), (2, 3, 0, 0, 568), (67, 95, 4, 124, 569), (11, 5, 0, 0, 572), (2, 2, 0, 0, 574), (2, 0, 0, 0, 575), (1, 4, 0, 0, 576), (5, 1, 0, 0, 578), (20, 0, 0, 0, 579), (32, 0, 0, 0, 580), (2, 0, 0, 0, 581), (1, 4, 0, 0, 582), (5, 2, 0, 0, 584), (20, 0, 0, 0, 585), (32, 0, 0, 0, 586), (64, 210, 3, 127, 587), (11, 6, 0, 0, 590), (2, 2, 0, 0, 592), (64, 159, 1, 100, 593), (1, 5, 0, 0, 596), (42, 603, 601, 0, 598)]),
  (601, [(5, 0, 0, 0, 601), (72, 0, 0, 0, 602)]),
  (603, [(1, 5, 0, 0, 603), (49, 620, 608, 0, 605)]),
  (608, [(2, 3, 0, 0, 608), (5, 0, 0, 0, 609), (37, 0, 0, 0, 610), (1, 6, 0, 0, 611), (57, 0, 0, 0, 613), (60, 0, 0, 0, 614), (48, 620, 618, 0, 615)]),
  (618, [(5, 0, 0, 0, 618), (72, 0, 0, 0, 619)]),
  (620, [(54, 1784, 0, 0, 620)]),
  (623, [(2, 1, 0, 0, 623), (64, 28, 1, 128, 624), (2, 2, 0, 0, 627), (64, 178, 1, 131, 628), (42, 1784, 634, 0, 631)]),
  (634, [(5, 0, 0, 0, 634), (72, 0, 0, 0, 635)]),
  (636, [(2, 1, 0, 0, 636), (2, 0, 0, 0, 637), (1, 4, 0, 0, 638), (5, 1, 0, 0, 640), (20, 0, 0, 0, 641), (32, 0, 0, 0, 642), (2, 3, 0, 0, 643), (67, 98, 3, 132, 644), (11, 5, 0, 0, 647), (2, 2, 0, 0, 649), (2, 0, 0, 0, 650), (1, 4, 0, 0, 651), (5, 1, 0, 0, 653), (20, 0, 0, 0, 654), (32, 0, 0, 0, 655), (64, 212, 2, 134, 656), (11, 6, 0, 0, 659), (2, 2, 0, 0, 661), (64, 159, 1, 100, 662), (1, 5, 0, 0, 665), (42, 672, 670, 0, 667)]),
  (670, [(5, 0, 0, 0, 670), (72, 0, 0, 0, 671)]),
  (672, [(1, 5, 0, 0, 672), (49, 689, 677, 0, 674)]),
  (677, [(2, 3, 0, 0, 677), (5, 0, 0, 0, 678), (37, 0, 0, 0, 679), (1, 6, 0, 0, 680), (57, 0, 0, 0, 682), (60, 0, 0, 0, 683), (48, 689, 687, 0, 684)]),
  (687, [(5, 0, 0, 0, 687), (72, 0, 0, 0, 688)]),
  (689, [(54, 1784, 0, 0, 689)]),
  (692, [(2, 1, 0, 0, 692), (2, 0, 0, 0, 693), (1, 4, 0, 0, 694), (5, 1, 0, 0, 696), (20, 0, 0, 0, 697), (32, 0, 0, 0, 698), (2, 0, 0, 0, 699), (1, 4, 0, 0, 700), (5, 2, 0, 0, 702), (20, 0, 0, 0, 703), (32, 0, 0, 0, 704), (2, 3, 0, 0, 705), (67, 110, 4, 135, 706), (11, 5, 0, 0, 709), (2, 2, 0, 0, 711), (2, 0, 0, 0, 712), (1, 4, 0, 0, 713), (5, 1, 0, 0, 715), (20, 0, 0, 0, 716), (32, 0, 0, 0, 717), (2, 0, 0, 0, 718), (1, 4, 0, 0, 719), (5, 2, 0, 0, 721), (20, 0, 0, 0, 722), (32, 0, 0, 0, 723), (64, 224, 3, 137, 724), (11, 6, 0, 0, 727), (2, 2, 0, 0, 729), (64, 159, 1, 100, 730), (1, 5, 0, 0, 733), (42, 740, 738, 0, 735)]),
  (738, [(5, 0, 0, 0, 738), (72, 0, 0, 0, 739)]),
  (740, [(1, 5, 0, 0, 740), (49, 757, 745, 0, 742)]),
  (745, [(2, 3, 0, 0, 745), (5, 0, 0, 0, 746), (37, 0, 0, 0, 747), (1, 6, 0, 0, 748), (57, 0, 0, 0, 750), (60, 0, 0, 0, 751), (48, 757, 755, 0, 752)]),
  (755, [(5, 0, 0, 0, 755), (72, 0, 0, 0, 756)]),
  (757, [(54, 1784, 0, 0, 757)]),
  (760, [(2, 1, 0, 0, 760), (2, 0, 0, 0, 761), (1, 4, 0, 0, 762), (5, 1, 0, 0, 764), (20, 0, 0, 0, 765), (32, 0, 0, 0, 766), (2, 0, 0, 0, 767), (1, 4, 0, 0, 768), (5, 2, 0, 0, 770), (20, 0, 0, 0, 771), (32, 0, 0, 0, 772), (2, 0, 0, 0, 773), (1, 4, 0, 0, 774), (5, 3, 0, 0, 776), (20, 0, 0, 0, 777), (32, 0, 0, 0, 778), (2, 3, 0, 0, 779), (67, 112, 5, 138, 780), (11, 5, 0, 0, 783), (2, 2, 0, 0, 785), (2, 0, 0, 0, 786), (1, 4, 0, 0, 787), (5, 1, 0, 0, 789), (20, 0, 0, 0, 790), (32, 0, 0, 0, 791), (2, 0, 0, 0, 792), (1, 4, 0, 0, 793), (5, 2, 0, 0, 795), (20, 0, 0, 0, 796), (32, 0, 0, 0, 797), (2, 0, 0, 0, 798), (1, 4, 0, 0, 799), (5, 3, 0, 0, 801), (20, 0, 0, 0, 802), (32, 0, 0, 0, 803), (64, 225, 4, 141, 804), (11, 6, 0, 0, 807), (2, 2, 0, 0, 809), (64, 159, 1, 100, 810), (1, 5, 0, 0, 813), (42, 820, 818, 0, 815)]),
  (818, [(5, 0, 0, 0, 818), (72, 0, 0, 0, 819)]),
  (820, [(1, 5, 0, 0, 820), (49, 837, 825, 0, 822)]),
  (825, [(2, 3, 0, 0, 825), (5, 0, 0, 0, 826), (37, 0, 0, 0, 827), (1, 6, 0, 0, 828), (57, 0, 0, 0, 830), (60, 0, 0, 0, 831), (48, 837, 835, 0, 832)]),
  (835, [(5, 0, 0, 0, 835), (72, 0, 0, 0, 836)]),
  (837, [(54, 1784, 0, 0, 837)]),
  (840, [(2, 1, 0, 0, 840), (2, 0, 0, 0, 841), (1, 4, 0, 0, 842), (5, 1, 0, 0, 844), (20, 0, 0, 0, 845), (32, 0, 0, 0, 846), (2, 0, 0, 0, 847), (1, 4, 0, 0, 848), (5, 2, 0, 0, 850), (20, 0, 0, 0, 851), (32, 0, 0, 0, 852), (2, 3, 0, 0, 853), (67, 115, 4, 142, 854), (11, 5, 0, 0, 857), (2, 2, 0, 0, 859), (2, 0, 0, 0, 860), (1, 4, 0, 0, 861), (5, 1, 0, 0, 863), (20, 0, 0, 0, 864), (32, 0, 0, 0, 865), (2, 0, 0, 0, 866), (1, 4, 0, 0, 867), (5, 2, 0, 0, 869), (20, 0, 0, 0, 870), (32, 0, 0, 0, 871), (64, 227, 3, 144, 872), (11, 6, 0, 0, 875), (2, 2, 0, 0, 877), (64, 159, 1, 100, 878), (1, 5, 0, 0, 881), (42, 888, 886, 0, 883)]),
  (886, [(5, 0, 0, 0, 886), (72, 0, 0, 0, 887)]),
  (888, [(1, 5, 0, 0, 888), (49, 905, 893, 0, 890)]),
  (893, [(2, 3, 0, 0, 893), (5, 0, 0, 0, 894), (37, 0, 0, 0, 895), (1, 6, 0, 0, 896), (57, 0, 0, 0, 898), (60, 0, 0, 0, 899), (48, 905, 903, 0, 900)]),
  (903, [(5, 0, 0, 0, 903), (72, 0, 0, 0, 904)]),
  (905, [(54, 1784, 0, 0, 905)]),
  (908, [(2, 1, 0, 0, 908), (2, 0, 0, 0, 909), (1, 4, 0, 0, 910), (5, 1, 0, 0, 912), (20, 0, 0, 0, 913), (32, 0, 0, 0, 914), (2, 0, 0, 0, 915), (1, 4, 0, 0, 916), (5, 2, 0, 0, 918), (20, 0, 0, 0, 919), (32, 0, 0, 0, 920), (2, 3, 0, 0, 921), (67, 118, 4, 145, 922), (11, 5, 0, 0, 925), (2, 2, 0, 0, 927), (2, 0, 0, 0, 928), (1, 4, 0, 0, 929), (5, 1, 0, 0, 931), (20, 0, 0, 0, 932), (32, 0, 0, 0, 933), (2, 0, 0, 0, 934), (1, 4, 0, 0, 935), (5, 2, 0, 0, 937), (20, 0, 0, 0, 938), (32, 0, 0, 0, 939), (64, 229, 3, 147, 940), (11, 6, 0, 0, 943), (2, 2, 0, 0, 945), (64, 159, 1, 100, 946), (1, 5, 0, 0, 949), (42, 956, 954, 0, 951)]),
  (954, [(5, 0, 0, 0, 954), (72, 0, 0, 0, 955)]),
  (956, [(1, 5, 0, 0, 956), (49, 980, 961, 0, 958)]),
  (961, [(2, 3, 0, 0, 961), (5, 0, 0, 0, 962), (37, 0, 0, 0, 963), (1, 6, 0, 0, 964), (48, 973, 969, 0, 966)]),
  (969, [(62, 1, 0, 0, 969), (54, 974, 0, 0, 970)]),
  (973, [(62, 0, 0, 0, 973), (55, 974, 0, 0, 974)]),
  (974, [(60, 0, 0, 0, 974), (48, 980, 978, 0, 975)]),
  (978, [(5, 0, 0, 0, 978), (72, 0, 0, 0, 979)]),
  (980, [(54, 1784, 0, 0, 980)]),
  (983, [(2, 1, 0, 0, 983), (2, 0, 0, 0, 984), (1, 4, 0, 0, 985), (5, 1, 0, 0, 987), (20, 0, 0, 0, 988), (32, 0, 0, 0, 989), (2, 0, 0, 0, 990), (1, 4, 0, 0, 991), (5, 2, 0, 0, 993), (20, 0, 0, 0, 994), (32, 0, 0, 0, 995), (2, 3, 0, 0, 996), (67, 120, 4, 148, 997), (11, 5, 0, 0, 1000), (2, 2, 0, 0, 1002), (2, 0, 0, 0, 1003), (1, 4, 0, 0, 1004), (5, 1, 0, 0, 1006), (20, 0, 0, 0, 1007), (32, 0, 0, 0, 1008), (2, 0, 0, 0, 1009), (1, 4, 0, 0, 1010), (5, 2, 0, 0, 1012), (20, 0, 0, 0, 1013), (32, 0, 0, 0, 1014), (64, 230, 3, 150, 1015), (11, 6, 0, 0, 1018), (2, 2, 0, 0, 1020), (64, 159, 1, 100, 1021), (1, 5, 0, 0, 1024), (42, 1031, 1029, 0, 1026)]),
  (1029, [(5, 0, 0, 0, 1029), (72, 0, 0, 0, 1030)]),
  (1031, [(1, 5, 0, 0, 1031), (49, 1048, 1036, 0, 1033)]),
  (1036, [(2, 3, 0, 0, 1036), (5, 0, 0, 0, 1037), (37, 0, 0, 0, 1038), (1, 6, 0, 0, 1039), (57, 0, 0, 0, 1041), (60, 0, 0, 0, 1042), (48, 1048, 1046, 0, 1043)]),
  (1046, [(5, 0, 0, 0, 1046), (72, 0, 0, 0, 1047)]),
  (1048, [(54, 1784, 0, 0, 1048)]),
  (1051, [(2, 1, 0, 0, 1051), (2, 0, 0, 0, 1052), (1, 4, 0, 0, 1053), (5, 1, 0, 0, 1055), (20, 0, 0, 0, 1056), (32, 0, 0, 0, 1057), (2, 0, 0, 0, 1058), (1, 4, 0, 0, 1059), (5, 2, 0, 0, 1061), (20, 0, 0, 0, 1062), (32, 0, 0, 0, 1063), (2, 3, 0, 0, 1064), (67, 122, 4, 151, 1065), (11, 5, 0, 0, 1068), (2, 2, 0, 0, 1070), (2, 0, 0, 0, 1071), (1, 4, 0, 0, 1072), (5, 1, 0, 0, 1074), (20, 0, 0, 0, 1075), (32, 0, 0, 0, 1076), (2, 0, 0, 0, 1077), (1, 4, 0, 0, 1078), (5, 2, 0, 0, 1080), (20, 0, 0, 0, 1081), (32, 0, 0, 0, 1082), (64, 231, 3, 153, 1083), (11, 6, 0, 0, 1086), (2, 2, 0, 0, 1088), (64, 159, 1, 100, 1089), (1, 5, 0, 0, 1092), (42, 1099, 1097, 0, 1094)]),
  (1097, [(5, 0, 0, 0, 1097), (72, 0, 0, 0, 1098)]),
  (1099, [(1, 5, 0, 0, 1099), (49, 1116, 1104, 0, 1101)]),
  (1104, [(2, 3, 0, 0, 1104), (5, 0, 0, 0, 1105), (37, 0, 0, 0, 1106), (1, 6, 0, 0, 1107), (57, 0, 0, 0, 1109), (60, 0, 0, 0, 1110), (48, 1116, 1114, 0, 1111)]),
  (1114, [(5, 0, 0, 0, 1114), (72, 0, 0, 0, 1115)]),
  (1116, [(54, 1784, 0, 0, 1116)]),
  (1119, [(2, 1, 0, 0, 1119), (2, 0, 0, 0, 1120), (1, 4, 0, 0, 1121), (5, 1, 0, 0, 1123), (20, 0, 0, 0, 1124), (32, 0, 0, 0, 1125), (2, 0, 0, 0, 1126), (1, 4, 0, 0, 1127), (5, 2, 0, 0, 1129), (20, 0, 0, 0, 1130), (32, 0, 0, 0, 1131), (2, 3, 0, 0, 1132), (67, 124, 4, 154, 1133), (11, 5, 0, 0, 1136), (2, 2, 0, 0, 1138), (2, 0, 0, 0, 1139), (1, 4, 0, 0, 1140), (5, 1, 0, 0, 1142), (20, 0, 0, 0, 1143), (32, 0, 0, 0, 1144), (2, 0, 0, 0, 1145), (1, 4, 0, 0, 1146), (5, 2, 0, 0, 1148), (20, 0, 0, 0, 1149), (32, 0, 0, 0, 1150), (64, 232, 3, 156, 1151), (11, 6, 0, 0, 1154), (2, 2, 0, 0, 1156), (64, 159, 1, 100, 1157), (1, 5, 0, 0, 1160), (42, 1167, 1165, 0, 1162)]),
  (1165, [(5, 0, 0, 0, 1165), (72, 0, 0, 0, 1166)]),
  (1167, [(1, 5, 0, 0, 1167), (49, 1184, 1172, 0, 1169)]),
  (1172, [(2, 3, 0, 0, 1172), (5, 0, 0, 0, 1173), (37, 0, 0, 0, 1174), (1, 6, 0, 0, 1175), (57, 0, 0, 0, 1177), (60, 0, 0, 0, 1178), (48, 1184, 1182, 0, 1179)]),
  (1182, [(5, 0, 0, 0, 1182), (72, 0, 0, 0, 1183)]),
  (1184, [(54, 1784, 0, 0, 1184)]),
  (1187, [(2, 1, 0, 0, 1187), (2, 0, 0, 0, 1188), (1, 4, 0, 0, 1189), (5, 1, 0, 0, 1191), (20, 0, 0, 0, 1192), (32, 0, 0, 0, 1193), (2, 0, 0, 0, 1194), (1, 4, 0, 0, 1195), (5, 2, 0, 0, 1197), (20, 0, 0, 0, 1198), (32, 0, 0, 0, 1199), (2, 3, 0, 0, 1200), (67, 126, 4, 157, 1201), (11, 5, 0, 0, 1204), (2, 2, 0, 0, 1206), (2, 0, 0, 0, 1207), (1, 4, 0, 0, 1208), (5, 1, 0, 0, 1210), (20, 0, 0, 0, 1211), (32, 0, 0, 0, 1212), (2, 0, 0, 0, 1213), (1, 4, 0, 0, 1214), (5, 2, 0, 0, 1216), (20, 0, 0, 0, 1217), (32, 0, 0, 0, 1218), (64, 233, 3, 159, 1219), (11, 6, 0, 0, 1222), (2, 2, 0, 0, 1224), (64, 159, 1, 100, 1225), (1, 5, 0, 0, 1228), (42, 1235, 1233, 0, 1230)]),
  (1233, [(5, 0, 0, 0, 1233), (72, 0, 0, 0, 1234)]),
  (1235, [(1, 5, 0, 0, 1235), (49, 1252, 1240, 0, 1237)]),
  (1240, [(2, 3, 0, 0, 1240), (5, 0, 0, 0, 1241), (37, 0, 0, 0, 1242), (1, 6, 0, 0, 1243), (57, 0, 0, 0, 1245), (60, 0, 0, 0, 1246), (48, 1252, 1250, 0, 1247)]),
  (1250, [(5, 0, 0, 0, 1250), (72, 0, 0, 0, 1251)]),
  (1252, [(54, 1784, 0, 0, 1252)]),
  (1255, [(2, 1, 0, 0, 1255), (64, 29, 1, 160, 1256), (2, 2, 0, 0, 1259), (64, 234, 1, 163, 1260), (42, 1784, 1266, 0, 1263)]),
  (1266, [(5, 0, 0, 0, 1266), (72, 0, 0, 0, 1267)]),
  (1268, [(2, 1, 0, 0, 1268), (2, 0, 0, 0, 1269), (1, 4, 0, 0, 1270), (5, 1, 0, 0, 1272), (20, 0, 0, 0, 1273), (32, 0, 0, 0, 1274), (2, 0, 0, 0, 1275), (1, 4, 0, 0, 1276), (5, 2, 0, 0, 1278), (20, 0, 0, 0, 1279), (32, 0, 0, 0, 1280), (2, 3, 0, 0, 1281), (67, 129, 4, 164, 1282), (11, 5, 0, 0, 1285), (2, 2, 0, 0, 1287), (2, 0, 0, 0, 1288), (1, 4, 0, 0, 1289), (5, 1, 0, 0, 1291), (20, 0, 0, 0, 1292), (32, 0, 0, 0, 1293), (2, 0, 0, 0, 1294), (1, 4, 0, 0, 1295), (5, 2, 0, 0, 1297), (20, 0, 0, 0, 1298), (32, 0, 0, 0, 1299), (64, 235, 3, 166, 1300), (11, 6, 0, 0, 1303), (2, 2, 0, 0, 1305), (64, 159, 1, 100, 1306), (1, 5, 0, 0, 1309), (42, 1316, 1314, 0, 1311)]),
  (1314, [(5, 0, 0, 0, 1314), (72, 0, 0, 0, 1315)]),
  (1316, [(1, 5, 0, 0, 1316), (49, 1333, 1321, 0, 1318)]),
  (1321, [(2, 3, 0, 0, 1321), (5, 0, 0, 0, 1322), (37, 0, 0, 0, 1323), (1, 6, 0, 0, 1324), (57, 0, 0, 0, 1326), (60, 0, 0, 0, 1327), (48, 1333, 1331, 0, 1328)]),
  (1331, [(5, 0, 0, 0, 1331), (72, 0, 0, 0, 1332)]),
  (1333, [(54, 1784, 0, 0, 1333)]),
  (1336, [(2, 1, 0, 0, 1336), (64, 32, 1, 167, 1337), (2, 2, 0, 0, 1340), (64, 236, 1, 170, 1341), (42, 1784, 1347, 0, 1344)]),
  (1347, [(5, 0, 0, 0, 1347), (72, 0, 0, 0, 1348)]),
  (1349, [(2, 1, 0, 0, 1349), (2, 0, 0, 0, 1350), (1, 4, 0, 0, 1351), (5, 1, 0, 0, 1353), (20, 0, 0, 0, 1354), (32, 0, 0, 0, 1355), (2, 3, 0, 0, 1356), (67, 132, 3, 171, 1357), (11, 5, 0, 0, 1360), (2, 2, 0, 0, 1362), (2, 0, 0, 0, 1363), (1, 4, 0, 0, 1364), (5, 1, 0, 0, 1366), (20, 0, 0, 0, 1367), (32, 0, 0, 0, 1368), (64, 238, 2, 173, 1369), (11, 6, 0, 0, 1372), (2, 2, 0, 0, 1374), (64, 159, 1, 100, 1375), (1, 5, 0, 0, 1378), (42, 1385, 1383, 0, 1380)]),
  (1383, [(5, 0, 0, 0, 1383), (72, 0, 0, 0, 1384)]),
  (1385, [(1, 5, 0, 0, 1385), (49, 1402, 1390, 0, 1387)]),
  (1390, [(2, 3, 0, 0, 1390), (5, 0, 0, 0, 1391), (37, 0, 0, 0, 1392), (1, 6, 0, 0, 1393), (57, 0, 0, 0, 1395), (60, 0, 0, 0, 1396), (48, 1402, 1400, 0, 1397)]),
  (1400, [(5, 0, 0, 0, 1400), (72, 0, 0, 0, 1401)]),
  (1402, [(54, 1784, 0, 0, 1402)]),
  (1405, [(2, 1, 0, 0, 1405), (2, 0, 0, 0, 1406), (1, 4, 0, 0, 1407), (5, 1, 0, 0, 1409), (20, 0, 0, 0, 1410), (32, 0, 0, 0, 1411), (2, 3, 0, 0, 1412), (67, 135, 3, 174, 1413), (11, 5, 0, 0, 1416), (2, 2, 0, 0, 1418), (2, 0, 0, 0, 1419), (1, 4, 0, 0, 1420), (5, 1, 0, 0, 1422), (20, 0, 0, 0, 1423), (32, 0, 0, 0, 1424), (64, 240, 2, 176, 1425), (11, 6, 0, 0, 1428), (2, 2, 0, 0, 1430), (64, 159, 1, 100, 1431), (1, 5, 0, 0, 1434), (42, 1441, 1439, 0, 1436)]),
  (1439, [(5, 0, 0, 0, 1439), (72, 0, 0, 0, 1440)]),
  (1441, [(1, 5, 0, 0, 1441), (49, 1458, 1446, 0, 1443)]),
  (1446, [(2, 3, 0, 0, 1446), (5, 0, 0, 0, 1447), (37, 0, 0, 0, 1448), (1, 6, 0, 0, 1449), (57, 0, 0, 0, 1451), (60, 0, 0, 0, 1452), (48, 1458, 1456, 0, 1453)]),
  (1456, [(5, 0, 0, 0, 1456), (72, 0, 0, 0, 1457)]),
  (1458, [(54, 1784, 0, 0, 1458)]),
  (1461, [(2, 1, 0, 0, 1461), (2, 0, 0, 0, 1462), (1, 4, 0, 0, 1463), (5, 1, 0, 0, 1465), (20, 0, 0, 0, 1466), (32, 0, 0, 0, 1467), (2, 0, 0, 0, 1468), (1, 4, 0, 0, 1469), (5, 2, 0, 0, 1471), (20, 0, 0, 0, 1472), (32, 0, 0, 0, 1473), (2, 3, 0, 0, 1474), (67, 138, 4, 177, 1475), (11, 5, 0, 0, 1478), (2, 2, 0, 0, 1480), (2, 0, 0, 0, 1481), (1, 4, 0, 0, 1482), (5, 1, 0, 0, 1484), (20, 0, 0, 0, 1485), (32, 0, 0, 0, 1486), (2, 0, 0, 0, 1487), (1, 4, 0, 0, 1488), (5, 2, 0, 0, 1490), (20, 0, 0, 0, 1491), (32, 0, 0, 0, 1492), (64, 241, 3, 179, 1493), (11, 6, 0, 0, 1496), (2, 2, 0, 0, 1498), (64, 159, 1, 100, 1499), (1, 5, 0, 0, 1502), (42, 1509, 1507, 0, 1504)]),
  (1507, [(5, 0, 0, 0, 1507), (72, 0, 0, 0, 1508)]),
  (1509, [(1, 5, 0, 0, 1509), (49, 1526, 1514, 0, 1511)]),
  (1514, [(2, 3, 0, 0, 1514), (5, 0, 0, 0, 1515), (37, 0, 0, 0, 1516), (1, 6, 0, 0, 1517), (57, 0, 0, 0, 1519), (60, 0, 0, 0, 1520), (48, 1526, 1524, 0, 1521)]),
  (1524, [(5, 0, 0, 0, 1524), (72, 0, 0, 0, 1525)]),
  (1526, [(54, 1784, 0, 0, 1526)]),
  (1529, [(2, 1, 0, 0, 1529), (2, 0, 0, 0, 1530), (1, 4, 0, 0, 1531), (5, 1, 0, 0, 1533), (20, 0, 0, 0, 1534), (32, 0, 0, 0, 1535), (2, 0, 0, 0, 1536), (1, 4, 0, 0, 1537), (5, 2, 0, 0, 1539), (20, 0, 0, 0, 1540), (32, 0, 0, 0, 1541), (2, 3, 0, 0, 1542), (67, 140, 4, 180, 1543), (11, 5, 0, 0, 1546), (2, 2, 0, 0, 1548), (2, 0, 0, 0, 1549), (1, 4, 0, 0, 1550), (5, 1, 0, 0, 1552), (20, 0, 0, 0, 1553), (32, 0, 0, 0, 1554), (2, 0, 0, 0, 1555), (1, 4, 0, 0, 1556), (5, 2, 0, 0, 1558), (20, 0, 0, 0, 1559), (32, 0, 0, 0, 1560), (64, 242, 3, 182, 1561), (11, 6, 0, 0, 1564), (2, 2, 0, 0, 1566), (64, 159, 1, 100, 1567), (1, 5, 0, 0, 1570), (42, 1577, 1575, 0, 1572)]),
  (1575, [(5, 0, 0, 0, 1575), (72, 0, 0, 0, 1576)]),
  (1577, [(1, 5, 0, 0, 1577), (49, 1594, 1582, 0, 1579)]),
  (1582, [(2, 3, 0, 0, 1582), (5, 0, 0, 0, 1583), (37, 0, 0, 0, 1584), (1, 6, 0, 0, 1585), (57, 0, 0, 0, 1587), (60, 0, 0, 0, 1588), (48, 1594, 1592, 0, 1589)]),
  (1592, [(5, 0, 0, 0, 1592), (72, 0, 0, 0, 1593)]),
  (1594, [(54, 1784, 0, 0, 1594)]),
  (1597, [(2, 1, 0, 0, 1597), (2, 0, 0, 0, 1598), (1, 4, 0, 0, 1599), (5, 1, 0, 0, 1601), (20, 0, 0, 0, 1602), (32, 0, 0, 0, 1603), (2, 0, 0, 0, 1604), (1, 4, 0, 0, 1605), (5, 2, 0, 0, 1607), (20, 0, 0, 0, 1608), (32, 0, 0, 0, 1609), (2, 3, 0, 0, 1610), (67, 142, 4, 183, 1611), (11, 5, 0, 0, 1614), (2, 2, 0, 0, 1616), (2, 0, 0, 0, 1617), (1, 4, 0, 0, 1618), (5, 1, 0, 0, 1620), (20, 0, 0, 0, 1621), (32, 0, 0, 0, 1622), (2, 0, 0, 0, 1623), (1, 4, 0, 0, 1624), (5, 2, 0, 0, 1626), (20, 0, 0, 0, 1627), (32, 0, 0, 0, 1628), (64, 243, 3, 185, 1629), (11, 6, 0, 0, 1632), (2, 2, 0, 0, 1634), (64, 159, 1, 100, 1635), (1, 5, 0, 0, 1638), (42, 1645, 1643, 0, 1640)]),
  (1643, [(5, 0, 0, 0, 1643), (72, 0, 0, 0, 1644)]),
  (1645, [(1, 5, 0, 0, 1645), (49, 1662, 1650, 0, 1647)]),
  (1650, [(2, 3, 0, 0, 1650), (5, 0, 0, 0, 1651), (37, 0, 0, 0, 1652), (1, 6, 0, 0, 1653), (57, 0, 0, 0, 1655), (60, 0, 0, 0, 1656), (48, 1662, 1660, 0, 1657)]),
  (1660, [(5, 0, 0, 0, 1660), (72, 0, 0, 0, 1661)]),
  (1662, [(54, 1784, 0, 0, 1662)]),
  (1665, [(2, 1, 0, 0, 1665), (2, 0, 0, 0, 1666), (1, 4, 0, 0, 1667), (5, 1, 0, 0, 1669), (20, 0, 0, 0, 1670), (32, 0, 0, 0, 1671), (2, 0, 0, 0, 1672), (1, 4, 0, 0, 1673), (5, 2, 0, 0, 1675), (20, 0, 0, 0, 1676), (32, 0, 0, 0, 1677), (2, 0, 0, 0, 1678), (1, 4, 0, 0, 1679), (5, 3, 0, 0, 1681), (20, 0, 0, 0, 1682), (32, 0, 0, 0, 1683), (2, 3, 0, 0, 1684), (67, 145, 5, 186, 1685), (11, 5, 0, 0, 1688), (2, 2, 0, 0, 1690), (2, 0, 0, 0, 1691), (1, 4, 0, 0, 1692), (5, 1, 0, 0, 1694), (20, 0, 0, 0, 1695), (32, 0, 0, 0, 1696), (2, 0, 0, 0, 1697), (1, 4, 0, 0, 1698), (5, 2, 0, 0, 1700), (20, 0, 0, 0, 1701), (32, 0, 0, 0, 1702), (2, 0, 0, 0, 1703), (1, 4, 0, 0, 1704), (5, 3, 0, 0, 1706), (20, 0, 0, 0, 1707), (32, 0, 0, 0, 1708), (64, 245, 4, 188, 1709), (11, 6, 0, 0, 1712), (2, 2, 0, 0, 1714), (64, 159, 1, 100, 1715), (1, 5, 0, 0, 1718), (42, 1725, 1723, 0, 1720)]),
  (1723, [(5, 0, 0, 0, 1723), (72, 0, 0, 0, 1724)]),
  (1725, [(1, 5, 0, 0, 1725), (49, 1742, 1730, 0, 1727)]),
  (1730, [(2, 3, 0, 0, 1730), (5, 0, 0, 0, 1731), (37, 0, 0, 0, 1732), (1, 6, 0, 0, 1733), (57, 0, 0, 0, 1735), (60, 0, 0, 0, 1736), (48, 1742, 1740, 0, 1737)]),
  (1740, [(5, 0, 0, 0, 1740), (72, 0, 0, 0, 1741)]),
  (1742, [(54, 1784, 0, 0, 1742)]),
  (1745, [(2, 1, 0, 0, 1745), (64, 57, 1, 189, 1746), (2, 2, 0, 0, 1749), (64, 248, 1, 193, 1750), (60, 0, 0, 0, 1753), (48, 1784, 1757, 0, 1754)]),
  (1757, [(5, 0, 0, 0, 1757), (72, 0, 0, 0, 1758)]),
  (1759, [(2, 1, 0, 0, 1759), (2, 0, 0, 0, 1760), (1, 4, 0, 0, 1761), (5, 1, 0, 0, 1763), (20, 0, 0, 0, 1764), (32, 0, 0, 0, 1765), (64, 58, 2, 194, 1766), (2, 2, 0, 0, 1769), (2, 0, 0, 0, 1770), (1, 4, 0, 0, 1771), (5, 1, 0, 0, 1773), (20, 0, 0, 0, 1774), (32, 0, 0, 0, 1775), (64, 249, 2, 197, 1776), (42, 1784, 1782, 0, 1779)]),
  (1782, [(5, 0, 0, 0, 1782), (72, 0, 0, 0, 1783)]),
  (1784, [(15, 4, 6, 0, 1784), (54, 23, 0, 0, 1787)]),
  (1790, [(5, 1, 0, 0, 1790), (72, 0, 0, 0, 1791)])]
def z_bls (m : Nat) : List (Nat × List zO) := (if m < 125 then (if m < 62 then (if m < 31 then (if m < 15 then (if m < 7 then (if m < 3 then (if m < 1 then zb_0 else (if m < 2 then zb_1 else zb_2)) else (if m < 5 then (if m < 4 then zb_3 else zb_4) else (if m < 6 then zb_5 else zb_6))) else (if m < 11 then (if m < 9 then (if m < 8 then zb_7 else zb_8) else (if m < 10 then zb_9 else zb_10)) else (if m < 13 then (if m < 12 then zb_11 else zb_12) else (if m < 14 then zb_13 else zb_14)))) else (if m < 23 then (if m < 19 then (if m < 17 then (if m < 16 then zb_15 else zb_16) else (if m < 18 then zb_17 else zb_18)) else (if m < 21 then (if m < 20 then zb_19 else zb_20) else (if m < 22 then zb_21 else zb_22))) else (if m < 27 then (if m < 25 then (if m < 24 then zb_23 else zb_24) else (if m < 26 then zb_25 else zb_26)) else (if m < 29 then (if m < 28 then zb_27 else zb_28) else (if m < 30 then zb_29 else zb_30))))) else (if m < 46 then (if m < 38 then (if m < 34 then (if m < 32 then zb_31 else (if m < 33 then zb_32 else zb_33)) else (if m < 36 then (if m < 35 then zb_34 else zb_35) else (if m < 37 then zb_36 else zb_37))) else (if m < 42 then (if m < 40 then (if m < 39 then zb_38 else zb_39) else (if m < 41 then zb_40 else zb_41)) else (if m < 44 then (if m < 43 then zb_42 else zb_43) else (if m < 45 then zb_44 else zb_45)))) else (if m < 54 then (if m < 50 then (if m < 48 then (if m < 47 then zb_46 else zb_47) else (if m < 49 then zb_48 else zb_49)) else (if m < 52 then (if m < 51 then zb_50 else zb_51) else (if m < 53 then zb_52 else zb_53))) else (if m < 58 then (if m < 56 then (if m < 55 then zb_54 else zb_55) else (if m < 57 then zb_56 else zb_57)) else (if m < 60 then (if m < 59 then zb_58 else zb_59) else (if m < 61 then zb_60 else zb_61)))))) else (if m < 93 then (if m < 77 then (if m < 69 then (if m < 65 then (if m < 63 then zb_62 else (if m < 64 then zb_63 else zb_64)) else (if m < 67 then (if m < 66 then zb_65 else zb_66) else (if m < 68 then zb_67 else zb_68))) else (if m < 73 then (if m < 71 then (if m < 70 then zb_69 else zb_70) else (if m < 72 then zb_71 else zb_72)) else (if m < 75 then (if m < 74 then zb_73 else zb_74) else (if m < 76 then zb_75 else zb_76)))) else (if m < 85 then (if m < 81 then (if m < 79 then (if m < 78 then zb_77 else zb_78) else (if m < 80 then zb_79 else zb_80)) else (if m < 83 then (if m < 82 then zb_81 else zb_82) else (if m < 84 then zb_83 else zb_84))) else (if m < 89 then (if m < 87 then (if m < 86 then zb_85 else zb_86) else (if m < 88 then zb_87 else zb_88)) else (if m < 91 then (if m < 90 then zb_89 else zb_90) else (if m < 92 then zb_91 else zb_92))))) else (if m < 109 then (if m < 101 then (if m < 97 then (if m < 95 then (if m < 94 then zb_93 else zb_94) else (if m < 96 then zb_95 else zb_96)) else (if m < 99 then (if m < 98 then zb_97 else zb_98) else (if m < 100 then zb_99 else zb_100))) else (if m < 105 then (if m < 103 then (if m < 102 then zb_101 else zb_102) else (if m < 104 then zb_103 else zb_104)) else (if m < 107 then (if m < 106 then zb_105 else zb_106) else (if m < 108 then zb_107 else zb_108)))) else (if m < 117 then (if m < 113 then (if m < 111 then (if m < 110 then zb_109 else zb_110) else (if m < 112 then zb_111 else zb_112)) else (if m < 115 then (if m < 114 then zb_113 else zb_114) else (if m < 116 then zb_115 else zb_116))) else (if m < 121 then (if m < 119 then (if m < 118 then zb_117 else zb_118) else (if m < 120 then zb_119 else zb_120)) else (if m < 123 then (if m < 122 then zb_121 else zb_122) else (if m < 124 then zb_123 else zb_124))))))) else (if m < 188 then (if m < 156 then (if m < 140 then (if m < 132 then (if m < 128 then (if m < 126 then zb_125 else (if m < 127 then zb_126 else zb_127)) else (if m < 130 then (if m < 129 then zb_128 else zb_129) else (if m < 131 then zb_130 else zb_131))) else (if m < 136 then (if m < 134 then (if m < 133 then zb_132 else zb_133) else (if m < 135 then zb_134 else zb_135)) else (if m < 138 then (if m < 137 then zb_136 else zb_137) else (if m < 139 then zb_138 else zb_139)))) else (if m < 148 then (if m < 144 then (if m < 142 then (if m < 141 then zb_140 else zb_141) else (if m < 143 then zb_142 else zb_143)) else (if m < 146 then (if m < 145 then zb_144 else zb_145) else (if m < 147 then zb_146 else zb_147))) else (if m < 152 then (if m < 150 then (if m < 149 then zb_148 else zb_149) else (if m < 151 then zb_150 else zb_151)) else (if m < 154 then (if m < 153 then zb_152 else zb_153) else (if m < 155 then zb_154 else zb_155))))) else (if m < 172 then (if m < 164 then (if m < 160 then (if m < 158 then (if m < 157 then zb_156 else zb_157) else (if m < 159 then zb_158 else zb_159)) else (if m < 162 then (if m < 161 then zb_160 else zb_161) else (if m < 163 then zb_162 else zb_163))) else (if m < 168 then (if m < 166 then (if m < 165 then zb_164 else zb_165) else (if m < 167 then zb_166 else zb_167)) else (if m < 170 then (if m < 169 then zb_168 else zb_169) else (if m < 171 then zb_170 else zb_171)))) else (if m < 180 then (if m < 176 then (if m < 174 then (if m < 173 then zb_172 else zb_173) else (if m < 175 then zb_174 else zb_175)) else (if m < 178 then (if m < 177 then zb_176 else zb_177) else (if m < 179 then zb_178 else zb_179))) else (if m < 184 then (if m < 182 then (if m < 181 then zb_180 else zb_181) else (if m < 183 then zb_182 else zb_183)) else (if m < 186 then (if m < 185 then zb_184 else zb_185) else (if m < 187 then zb_186 else zb_187)))))) else (if m < 219 then (if m < 203 then (if m < 195 then (if m < 191 then (if m < 189 then zb_188 else (if m < 190 then zb_189 else zb_190)) else (if m < 193 then (if m < 192 then zb_191 else zb_192) else (if m < 194 then zb_193 else zb_194))) else (if m < 199 then (if m < 197 then (if m < 196 then zb_195 else zb_196) else (if m < 198 then zb_197 else zb_198)) else (if m < 201 then (if m < 200 then zb_199 else zb_200) else (if m < 202 then zb_201 else zb_202)))) else (if m < 211 then (if m < 207 then (if m < 205 then (if m < 204 then zb_203 else zb_204) else (if m < 206 then zb_205 else zb_206)) else (if m < 209 then (if m < 208 then zb_207 else zb_208) else (if m < 210 then zb_209 else zb_210))) else (if m < 215 then (if m < 213 then (if m < 212 then zb_211 else zb_212) else (if m < 214 then zb_213 else zb_214)) else (if m < 217 then (if m < 216 then zb_215 else zb_216) else (if m < 218 then zb_217 else zb_218))))) else (if m < 235 then (if m < 227 then (if m < 223 then (if m < 221 then (if m < 220 then zb_219 else zb_220) else (if m < 222 then zb_221 else zb_222)) else (if m < 225 then (if m < 224 then zb_223 else zb_224) else (if m < 226 then zb_225 else zb_226))) else (if m < 231 then (if m < 229 then (if m < 228 then zb_227 else zb_228) else (if m < 230 then zb_229 else zb_230)) else (if m < 233 then (if m < 232 then zb_231 else zb_232) else (if m < 234 then zb_233 else zb_234)))) else (if m < 243 then (if m < 239 then (if m < 237 then (if m < 236 then zb_235 else zb_236) else (if m < 238 then zb_237 else zb_238)) else (if m < 241 then (if m < 240 then zb_239 else zb_240) else (if m < 242 then zb_241 else zb_242))) else (if m < 247 then (if m < 245 then (if m < 244 then zb_243 else zb_244) else (if m < 246 then zb_245 else zb_246)) else (if m < 249 then (if m < 248 then zb_247 else zb_248) else (if m < 250 then zb_249 else zb_250))))))))
def z_look (l : List (Nat × List zO)) (L : Nat) : List zO := match l with | [] => [] | q :: r => if q.1 = L then q.2 else z_look r L
def z_blk (m L : Nat) : List zO := z_look (z_bls m) L
/-- the locals of each method -/
def z_mxl (m : Nat) : Nat := (if m < 125 then (if m < 62 then (if m < 31 then (if m < 15 then (if m < 7 then (if m < 3 then (if m < 1 then 2 else (if m < 2 then 1 else 1)) else (if m < 5 then (if m < 4 then 2 else 1) else (if m < 6 then 2 else 1))) else (if m < 11 then (if m < 9 then (if m < 8 then 3 else 5) else (if m < 10 then 1 else 4)) else (if m < 13 then (if m < 12 then 4 else 1) else (if m < 14 then 1 else 1)))) else (if m < 23 then (if m < 19 then (if m < 17 then (if m < 16 then 2 else 4) else (if m < 18 then 1 else 1)) else (if m < 21 then (if m < 20 then 4 else 6) else (if m < 22 then 3 else 1))) else (if m < 27 then (if m < 25 then (if m < 24 then 1 else 1) else (if m < 26 then 3 else 2)) else (if m < 29 then (if m < 28 then 2 else 2) else (if m < 30 then 1 else 3))))) else (if m < 46 then (if m < 38 then (if m < 34 then (if m < 32 then 1 else (if m < 33 then 1 else 2)) else (if m < 36 then (if m < 35 then 4 else 3) else (if m < 37 then 3 else 6))) else (if m < 42 then (if m < 40 then (if m < 39 then 4 else 6) else (if m < 41 then 9 else 4)) else (if m < 44 then (if m < 43 then 4 else 4) else (if m < 45 then 7 else 4)))) else (if m < 54 then (if m < 50 then (if m < 48 then (if m < 47 then 2 else 3) else (if m < 49 then 4 else 2)) else (if m < 52 then (if m < 51 then 2 else 2) else (if m < 53 then 2 else 3))) else (if m < 58 then (if m < 56 then (if m < 55 then 5 else 7) else (if m < 57 then 3 else 5)) else (if m < 60 then (if m < 59 then 2 else 4) else (if m < 61 then 2 else 2)))))) else (if m < 93 then (if m < 77 then (if m < 69 then (if m < 65 then (if m < 63 then 3 else (if m < 64 then 2 else 2)) else (if m < 67 then (if m < 66 then 1 else 2) else (if m < 68 then 4 else 3))) else (if m < 73 then (if m < 71 then (if m < 70 then 3 else 2) else (if m < 72 then 1 else 4)) else (if m < 75 then (if m < 74 then 2 else 3) else (if m < 76 then 2 else 4)))) else (if m < 85 then (if m < 81 then (if m < 79 then (if m < 78 then 2 else 4) else (if m < 80 then 3 else 5)) else (if m < 83 then (if m < 82 then 5 else 4) else (if m < 84 then 2 else 2))) else (if m < 89 then (if m < 87 then (if m < 86 then 5 else 4) else (if m < 88 then 2 else 2)) else (if m < 91 then (if m < 90 then 2 else 2) else (if m < 92 then 2 else 4))))) else (if m < 109 then (if m < 101 then (if m < 97 then (if m < 95 then (if m < 94 then 4 else 2) else (if m < 96 then 5 else 4)) else (if m < 99 then (if m < 98 then 2 else 4) else (if m < 100 then 2 else 3))) else (if m < 105 then (if m < 103 then (if m < 102 then 2 else 3) else (if m < 104 then 4 else 3)) else (if m < 107 then (if m < 106 then 4 else 4) else (if m < 108 then 1 else 6)))) else (if m < 117 then (if m < 113 then (if m < 111 then (if m < 110 then 4 else 5) else (if m < 112 then 4 else 6)) else (if m < 115 then (if m < 114 then 5 else 2) else (if m < 116 then 5 else 3))) else (if m < 121 then (if m < 119 then (if m < 118 then 4 else 5) else (if m < 120 then 3 else 5)) else (if m < 123 then (if m < 122 then 4 else 5) else (if m < 124 then 3 else 5))))))) else (if m < 188 then (if m < 156 then (if m < 140 then (if m < 132 then (if m < 128 then (if m < 126 then 3 else (if m < 127 then 5 else 3)) else (if m < 130 then (if m < 129 then 4 else 5) else (if m < 131 then 3 else 4))) else (if m < 136 then (if m < 134 then (if m < 133 then 4 else 2) else (if m < 135 then 2 else 4)) else (if m < 138 then (if m < 137 then 6 else 2) else (if m < 139 then 5 else 3)))) else (if m < 148 then (if m < 144 then (if m < 142 then (if m < 141 then 5 else 3) else (if m < 143 then 5 else 4)) else (if m < 146 then (if m < 145 then 6 else 6) else (if m < 147 then 9 else 5))) else (if m < 152 then (if m < 150 then (if m < 149 then 2 else 1) else (if m < 151 then 3 else 3)) else (if m < 154 then (if m < 153 then 3 else 2) else (if m < 155 then 2 else 2))))) else (if m < 172 then (if m < 164 then (if m < 160 then (if m < 158 then (if m < 157 then 5 else 2) else (if m < 159 then 4 else 1)) else (if m < 162 then (if m < 161 then 8 else 3) else (if m < 163 then 3 else 4))) else (if m < 168 then (if m < 166 then (if m < 165 then 1 else 2) else (if m < 167 then 3 else 1)) else (if m < 170 then (if m < 169 then 1 else 3) else (if m < 171 then 4 else 1)))) else (if m < 180 then (if m < 176 then (if m < 174 then (if m < 173 then 2 else 1) else (if m < 175 then 3 else 2)) else (if m < 178 then (if m < 177 then 5 else 1) else (if m < 179 then 1 else 2))) else (if m < 184 then (if m < 182 then (if m < 181 then 2 else 3) else (if m < 183 then 2 else 2)) else (if m < 186 then (if m < 185 then 4 else 3) else (if m < 187 then 2 else 6)))))) else (if m < 219 then (if m < 203 then (if m < 195 then (if m < 191 then (if m < 189 then 2 else (if m < 190 then 2 else 9)) else (if m < 193 then (if m < 192 then 4 else 8) else (if m < 194 then 3 else 2))) else (if m < 199 then (if m < 197 then (if m < 196 then 3 else 5) else (if m < 198 then 3 else 5)) else (if m < 201 then (if m < 200 then 5 else 3) else (if m < 202 then 2 else 2)))) else (if m < 211 then (if m < 207 then (if m < 205 then (if m < 204 then 5 else 1) else (if m < 206 then 3 else 2)) else (if m < 209 then (if m < 208 then 2 else 4) else (if m < 210 then 2 else 4))) else (if m < 215 then (if m < 213 then (if m < 212 then 2 else 2) else (if m < 214 then 3 else 4)) else (if m < 217 then (if m < 216 then 2 else 3) else (if m < 218 then 6 else 2))))) else (if m < 235 then (if m < 227 then (if m < 223 then (if m < 221 then (if m < 220 then 4 else 3) else (if m < 222 then 4 else 4)) else (if m < 225 then (if m < 224 then 6 else 3) else (if m < 226 then 4 else 2))) else (if m < 231 then (if m < 229 then (if m < 228 then 5 else 4) else (if m < 230 then 3 else 4)) else (if m < 233 then (if m < 232 then 3 else 3) else (if m < 234 then 3 else 3)))) else (if m < 243 then (if m < 239 then (if m < 237 then (if m < 236 then 5 else 2) else (if m < 238 then 2 else 2)) else (if m < 241 then (if m < 240 then 3 else 7) else (if m < 242 then 4 else 5))) else (if m < 247 then (if m < 245 then (if m < 244 then 5 else 6) else (if m < 246 then 9 else 5)) else (if m < 249 then (if m < 248 then 2 else 4) else (if m < 250 then 2 else 7))))))))
/-- the class of each method, as a receiver's -/
def z_rc (m : Nat) : Nat := (if m < 125 then (if m < 62 then (if m < 31 then (if m < 15 then (if m < 7 then (if m < 3 then (if m < 1 then 6 else (if m < 2 then 4 else 3)) else (if m < 5 then (if m < 4 then 5 else 1) else (if m < 6 then 2 else 0))) else (if m < 11 then (if m < 9 then (if m < 8 then 3 else 5) else (if m < 10 then 1 else 99)) else (if m < 13 then (if m < 12 then 5 else 5) else (if m < 14 then 99 else 2)))) else (if m < 23 then (if m < 19 then (if m < 17 then (if m < 16 then 5 else 5) else (if m < 18 then 2 else 2)) else (if m < 21 then (if m < 20 then 5 else 6) else (if m < 22 then 6 else 6))) else (if m < 27 then (if m < 25 then (if m < 24 then 6 else 6) else (if m < 26 then 5 else 1)) else (if m < 29 then (if m < 28 then 2 else 6) else (if m < 30 then 6 else 99))))) else (if m < 46 then (if m < 38 then (if m < 34 then (if m < 32 then 2 else (if m < 33 then 6 else 6)) else (if m < 36 then (if m < 35 then 5 else 1) else (if m < 37 then 5 else 5))) else (if m < 42 then (if m < 40 then (if m < 39 then 5 else 5) else (if m < 41 then 1 else 5)) else (if m < 44 then (if m < 43 then 5 else 5) else (if m < 45 then 5 else 5)))) else (if m < 54 then (if m < 50 then (if m < 48 then (if m < 47 then 99 else 5) else (if m < 49 then 1 else 5)) else (if m < 52 then (if m < 51 then 5 else 5) else (if m < 53 then 5 else 99))) else (if m < 58 then (if m < 56 then (if m < 55 then 99 else 99) else (if m < 57 then 99 else 6)) else (if m < 60 then (if m < 59 then 6 else 99) else (if m < 61 then 6 else 6)))))) else (if m < 93 then (if m < 77 then (if m < 69 then (if m < 65 then (if m < 63 then 4 else (if m < 64 then 99 else 4)) else (if m < 67 then (if m < 66 then 4 else 4) else (if m < 68 then 4 else 4))) else (if m < 73 then (if m < 71 then (if m < 70 then 4 else 4) else (if m < 72 then 4 else 4)) else (if m < 75 then (if m < 74 then 4 else 4) else (if m < 76 then 4 else 99)))) else (if m < 85 then (if m < 81 then (if m < 79 then (if m < 78 then 6 else 5) else (if m < 80 then 5 else 5)) else (if m < 83 then (if m < 82 then 5 else 99) else (if m < 84 then 6 else 5))) else (if m < 89 then (if m < 87 then (if m < 86 then 5 else 99) else (if m < 88 then 6 else 6)) else (if m < 91 then (if m < 90 then 6 else 6) else (if m < 92 then 5 else 1))))) else (if m < 109 then (if m < 101 then (if m < 97 then (if m < 95 then (if m < 94 then 99 else 6) else (if m < 96 then 99 else 6)) else (if m < 99 then (if m < 98 then 6 else 99) else (if m < 100 then 6 else 99))) else (if m < 105 then (if m < 103 then (if m < 102 then 99 else 99) else (if m < 104 then 99 else 99)) else (if m < 107 then (if m < 106 then 99 else 99) else (if m < 108 then 5 else 99)))) else (if m < 117 then (if m < 113 then (if m < 111 then (if m < 110 then 99 else 99) else (if m < 112 then 6 else 99)) else (if m < 115 then (if m < 114 then 6 else 6) else (if m < 116 then 99 else 6))) else (if m < 121 then (if m < 119 then (if m < 118 then 99 else 99) else (if m < 120 then 6 else 99)) else (if m < 123 then (if m < 122 then 6 else 99) else (if m < 124 then 6 else 99))))))) else (if m < 188 then (if m < 156 then (if m < 140 then (if m < 132 then (if m < 128 then (if m < 126 then 6 else (if m < 127 then 99 else 6)) else (if m < 130 then (if m < 129 then 5 else 99) else (if m < 131 then 6 else 99))) else (if m < 136 then (if m < 134 then (if m < 133 then 99 else 6) else (if m < 135 then 5 else 99)) else (if m < 138 then (if m < 137 then 6 else 6) else (if m < 139 then 99 else 6)))) else (if m < 148 then (if m < 144 then (if m < 142 then (if m < 141 then 99 else 6) else (if m < 143 then 99 else 6)) else (if m < 146 then (if m < 145 then 99 else 99) else (if m < 147 then 6 else 6))) else (if m < 152 then (if m < 150 then (if m < 149 then 0 else 7) else (if m < 151 then 7 else 7)) else (if m < 154 then (if m < 153 then 7 else 7) else (if m < 155 then 7 else 7))))) else (if m < 172 then (if m < 164 then (if m < 160 then (if m < 158 then (if m < 157 then 7 else 7) else (if m < 159 then 7 else 7)) else (if m < 162 then (if m < 161 then 7 else 7) else (if m < 163 then 7 else 7))) else (if m < 168 then (if m < 166 then (if m < 165 then 7 else 7) else (if m < 167 then 7 else 7)) else (if m < 170 then (if m < 169 then 7 else 7) else (if m < 171 then 7 else 7)))) else (if m < 180 then (if m < 176 then (if m < 174 then (if m < 173 then 7 else 7) else (if m < 175 then 7 else 7)) else (if m < 178 then (if m < 177 then 7 else 7) else (if m < 179 then 7 else 7))) else (if m < 184 then (if m < 182 then (if m < 181 then 7 else 7) else (if m < 183 then 7 else 7)) else (if m < 186 then (if m < 185 then 7 else 7) else (if m < 187 then 7 else 7)))))) else (if m < 219 then (if m < 203 then (if m < 195 then (if m < 191 then (if m < 189 then 7 else (if m < 190 then 7 else 7)) else (if m < 193 then (if m < 192 then 7 else 7) else (if m < 194 then 7 else 7))) else (if m < 199 then (if m < 197 then (if m < 196 then 7 else 7) else (if m < 198 then 7 else 7)) else (if m < 201 then (if m < 200 then 7 else 7) else (if m < 202 then 7 else 7)))) else (if m < 211 then (if m < 207 then (if m < 205 then (if m < 204 then 7 else 7) else (if m < 206 then 7 else 7)) else (if m < 209 then (if m < 208 then 7 else 7) else (if m < 210 then 7 else 7))) else (if m < 215 then (if m < 213 then (if m < 212 then 7 else 7) else (if m < 214 then 7 else 7)) else (if m < 217 then (if m < 216 then 7 else 7) else (if m < 218 then 7 else 7))))) else (if m < 235 then (if m < 227 then (if m < 223 then (if m < 221 then (if m < 220 then 7 else 7) else (if m < 222 then 7 else 7)) else (if m < 225 then (if m < 224 then 7 else 7) else (if m < 226 then 7 else 7))) else (if m < 231 then (if m < 229 then (if m < 228 then 7 else 7) else (if m < 230 then 7 else 7)) else (if m < 233 then (if m < 232 then 7 else 7) else (if m < 234 then 7 else 7)))) else (if m < 243 then (if m < 239 then (if m < 237 then (if m < 236 then 7 else 7) else (if m < 238 then 7 else 7)) else (if m < 241 then (if m < 240 then 7 else 7) else (if m < 242 then 7 else 7))) else (if m < 247 then (if m < 245 then (if m < 244 then 7 else 7) else (if m < 246 then 7 else 7)) else (if m < 249 then (if m < 248 then 7 else 7) else (if m < 250 then 7 else 99))))))))
def z_sw (a : Nat) : Nat × List Nat × Nat := if a = 0 then (0, [104, 115, 138, 149, 160, 184, 203], 241) else if a = 1 then (1, [36, 44, 76, 84], 123) else if a = 2 then (0, [112, 120, 253, 253, 253, 253, 128, 136, 147, 158, 166, 174, 190, 206, 214, 219, 224, 232, 243], 253) else if a = 3 then (0, [96, 101, 106, 111, 116, 121, 126, 131, 136, 160, 169, 178], 187) else if a = 4 then (0, [52, 61, 70], 79) else if a = 5 then (0, [100, 113, 126, 128, 149, 162], 184) else if a = 6 then (0, [80, 88, 96, 107], 109) else if a = 7 then (0, [104, 171, 194, 256, 322, 348, 361], 395) else if a = 8 then (1, [40, 137, 239, 245], 307) else if a = 9 then (7, [96, 104, 112, 117, 122, 135, 148, 153, 158, 163, 172, 172], 188) else if a = 10 then (0, [120, 198, 198, 198, 198, 198, 198, 198, 130, 168, 174, 180, 186], 198) else if a = 11 then (0, [176, 249, 305, 318, 374, 430, 443, 499, 555, 623, 636, 692, 760, 840, 908, 983, 1051, 1119, 1187, 1255, 1268, 1336, 1349, 1405, 1461, 1529, 1597, 1665, 1745, 1759], 1784) else (0, [], 0)
/-- where an exception is caught: the pc behind the store, the local that it goes to -/
def z_hd (m E : Nat) : Option (Nat × Nat) := if m = 59 ∧ E = 1 then some (13, 3) else if m = 76 ∧ E = 1 then some (13, 3) else if m = 82 ∧ E = 1 then some (13, 3) else if m = 86 ∧ E = 0 then some (13, 3) else if m = 86 ∧ E = 2 then some (16, 3) else if m = 93 ∧ E = 0 then some (13, 3) else if m = 93 ∧ E = 2 then some (16, 3) else if m = 95 ∧ E = 1 then some (15, 4) else if m = 98 ∧ E = 1 then some (13, 3) else if m = 110 ∧ E = 0 then some (15, 4) else if m = 110 ∧ E = 1 then some (19, 4) else if m = 112 ∧ E = 0 then some (17, 5) else if m = 112 ∧ E = 1 then some (21, 5) else if m = 115 ∧ E = 0 then some (15, 4) else if m = 115 ∧ E = 1 then some (19, 4) else if m = 118 ∧ E = 0 then some (22, 4) else if m = 118 ∧ E = 1 then some (26, 4) else if m = 120 ∧ E = 0 then some (15, 4) else if m = 120 ∧ E = 1 then some (19, 4) else if m = 122 ∧ E = 1 then some (15, 4) else if m = 124 ∧ E = 0 then some (15, 4) else if m = 124 ∧ E = 1 then some (19, 4) else if m = 126 ∧ E = 0 then some (15, 4) else if m = 126 ∧ E = 1 then some (19, 4) else if m = 129 ∧ E = 0 then some (15, 4) else if m = 132 ∧ E = 0 then some (13, 3) else if m = 135 ∧ E = 1 then some (13, 3) else if m = 138 ∧ E = 1 then some (15, 4) else if m = 140 ∧ E = 1 then some (15, 4) else if m = 142 ∧ E = 1 then some (15, 4) else if m = 145 ∧ E = 1 then some (17, 5) else none
/-- the texts of the constants, by their places -/
def z_tx (j : Nat) : List Nat := if j = 6 then [109, 101, 109, 98, 101, 114, 115] else if j = 7 then [114, 97, 110, 107, 115] else if j = 8 then [106, 111, 98, 115] else if j = 9 then [101, 118, 101, 114, 121] else if j = 10 then [119, 97, 105, 116] else if j = 11 then [103, 97, 112] else if j = 12 then [100, 101, 108, 97, 121] else if j = 13 then [109, 101, 109, 98, 101, 114, 115] else if j = 14 then [114, 97, 110, 107, 115] else if j = 15 then [106, 111, 98, 115] else if j = 16 then [101, 118, 101, 114, 121] else if j = 17 then [119, 97, 105, 116] else if j = 18 then [103, 97, 112] else if j = 19 then [100, 101, 108, 97, 121] else []
end
section
/-! ===== the small machine: a step function over places, ints and references; its runs ===== -/
def z_np (G : zG) : Nat := G.1.1
def z_nc (G : zG) : Nat := G.1.2.1
def z_ns (G : zG) : Nat := G.1.2.2
def z_kd (G : zG) (p : Nat) : Nat × Nat := G.2.1 p
def z_rf (G : zG) (p k : Nat) : Nat := G.2.2.1 p k
def z_lg (G : zG) (p k : Nat) : Int64 := G.2.2.2 p k
/-- one row of the memory is another; one number of a row is another -/
def z_sA (M : zM) (a : Nat) (f : Nat → Int32) : zM := fun q => if q = a then f else M q
def z_u (f : Nat → Int32) (k : Nat) (v : Int32) : Nat → Int32 := fun j => if j = k then v else f j
def z_setR (G : zG) (p k q : Nat) : zG := (G.1, G.2.1, (fun a => if a = p then (fun j => if j = k then q else G.2.2.1 p j) else G.2.2.1 a), G.2.2.2)
def z_setL (G : zG) (p k : Nat) (x : Int64) : zG := (G.1, G.2.1, G.2.2.1, (fun a => if a = p then (fun j => if j = k then x else G.2.2.2 p j) else G.2.2.2 a))
/-- one more place -/
def z_new (G : zG) (kind : Nat × Nat) (sl : Nat) : zG := ((G.1.1 + 1, G.1.2.1 + 1, G.1.2.2 + sl), (fun a => if a = G.1.1 then kind else G.2.1 a), (fun a => if a = G.1.1 then (fun _ => 0) else G.2.2.1 a), (fun a => if a = G.1.1 then (fun _ => 0) else G.2.2.2 a))
/-- an array of n arrays of k ints: the outer one, then the inner ones -/
def z_new2 (G : zG) (n k : Nat) : zG := ((G.1.1 + (1 + n), G.1.2.1 + (1 + n), G.1.2.2 + (n + n * k)), (fun a => if a = G.1.1 then (5, n) else if G.1.1 < a ∧ a ≤ G.1.1 + n then (1, k) else G.2.1 a), (fun a => if a = G.1.1 then (fun j => if j < n then G.1.1 + 1 + j else 0) else if G.1.1 < a ∧ a ≤ G.1.1 + n then (fun _ => 0) else G.2.2.1 a), (fun a => if G.1.1 ≤ a ∧ a ≤ G.1.1 + n then (fun _ => 0) else G.2.2.2 a))
def z_new2M (G : zG) (n : Nat) (M : zM) : zM := fun a => if G.1.1 ≤ a ∧ a ≤ G.1.1 + n then (fun _ => 0) else M a
/-- an exception's cell and slots are made: no place -/
def z_thr (G : zG) : zG := ((G.1.1, G.1.2.1 + 1, G.1.2.2 + 6), G.2)
abbrev zN : Type := Option Nat × List Value × List Value × zG × zM
abbrev zQ : Type := Option Value ⊕ Nat
abbrev zD : Type := zQ × zG × zM
abbrev zK : Type := Nat × List Value × List Value
abbrev zS : Type := Option (zN ⊕ (zD ⊕ zK))
abbrev z_go (ls st : List Value) (G : zG) (M : zM) : zS := some (.inl (none, ls, st, G, M))
abbrev z_to (L : Nat) (ls st : List Value) (G : zG) (M : zM) : zS := some (.inl (some L, ls, st, G, M))
abbrev z_dn (q : zQ) (G : zG) (M : zM) : zS := some (.inr (.inl (q, G, M)))
/-- a value is stored as a local: not behind a long -/
def z_put : List Value → Nat → Value → Option (List Value)
  | [], _, _ => none
  | _ :: r, 0, v => some (v :: r)
  | x :: r, k + 1, v => if k = 0 ∧ x.category = 2 then none else (z_put r k v).map (fun r' => x :: r')
def z_putL : List Value → Nat → Int64 → Option (List Value)
  | _ :: _ :: r, 0, v => some (.long v :: .null :: r)
  | x :: r, k + 1, v => if k = 0 ∧ x.category = 2 then none else (z_putL r k v).map (fun r' => x :: r')
  | _, _, _ => none
def z_take : Nat → List Value → List Value → Option (List Value × List Value)
  | 0, st, acc => some (acc, st)
  | n + 1, v :: st, acc => z_take n st (v :: acc)
  | _ + 1, [], _ => none
def z_cat : List Value → Nat
  | [] => 0
  | v :: r => v.category + z_cat r
/-- how many fields a class has -/
def z_nf : Nat → Nat
  | 0 => 1 | 1 => 6 | 2 => 15 | 3 => 4 | 4 => 9 | 5 => 9 | 6 => 11 | 7 => 20 | _ => 0
def z_ushr (x y : Int32) : Int32 := (x.toUInt32 >>> (y.toUInt32 &&& Int32.toUInt32 31)).toInt32
def z_cmpl (x y : Int64) : Int32 := if x < y then -1 else if x = y then 0 else 1
def z_swt (a : Nat) (x : Int32) : Nat := if x.toInt < ((z_sw a).1 : Int) then (z_sw a).2.2 else (z_sw a).2.1.getD (x.toInt - ((z_sw a).1 : Int)).toNat (z_sw a).2.2
/-- the receiver of a call by a name is of the class that has the method -/
def z_rcv (o f : Nat) (av : List Value) (G : zG) : Prop := o = 64 → ∃ p r, av = .ref p :: r ∧ z_kd G p = (0, z_rc f) ∧ 32 ≤ p
def z_rcB (o f : Nat) (av : List Value) (G : zG) : Bool := !(o == 64) || (match av with | .ref p :: _ => decide (z_kd G p = (0, z_rc f) ∧ 32 ≤ p) | _ => false)
def z_cg (o f n : Nat) (st : List Value) (G : zG) : Option (List Value × List Value) := match z_take n st [] with
  | some (av, rest) => if z_rcB o f av G = true ∧ z_cat rest ≤ 8 then some (av, rest) else none
  | none => none
def z_step (o a b : Nat) (ls st : List Value) (G : zG) (M : zM) : zS :=
  match o with
  | 0 => match ls[a]? with | some (.int x) => z_go ls (.int x :: st) G M | _ => none
  | 1 => match ls[a]? with | some (.int x) => z_go ls (.int x :: st) G M | _ => none
  | 2 => match ls[a]? with | some (.ref x) => z_go ls (.ref x :: st) G M | _ => none
  | 3 => match ls[a]? with | some (.ref x) => z_go ls (.ref x :: st) G M | _ => none
  | 4 => match ls[a]? with | some (.long x) => z_go ls (.long x :: st) G M | _ => none
  | 5 => z_go ls (.int (Int32.ofNat a) :: st) G M
  | 6 => z_go ls (.int (Int32.ofNat a) :: st) G M
  | 7 => z_go ls (.int (Int32.ofNat a) :: st) G M
  | 8 => z_go ls (.int (Int32.ofNat a) :: st) G M
  | 9 => z_go ls (.int (Int32.ofNat a) :: st) G M
  | 10 => match st with | .int x :: r => (match z_put ls a (.int x) with | some ls' => z_go ls' r G M | none => none) | _ => none
  | 11 => match st with | .int x :: r => (match z_put ls a (.int x) with | some ls' => z_go ls' r G M | none => none) | _ => none
  | 12 => match st with | .ref x :: r => (match z_put ls a (.ref x) with | some ls' => z_go ls' r G M | none => none) | _ => none
  | 13 => match st with | .ref x :: r => (match z_put ls a (.ref x) with | some ls' => z_go ls' r G M | none => none) | _ => none
  | 14 => match st with | .long x :: r => (match z_putL ls a x with | some ls' => z_go ls' r G M | none => none) | _ => none
  | 15 => match ls[a]? with | some (.int x) => (match z_put ls a (.int (x + Int32.ofNat b)) with | some ls' => z_go ls' st G M | none => none) | _ => none
  | 16 => match st with | .ref p :: r => if z_kd G p = (0, a) ∧ 32 ≤ p then z_go ls (.int (M p b) :: r) G M else none | _ => none
  | 17 => match st with | .ref p :: r => if (z_kd G p = (0, a) ∧ 32 ≤ p) ∧ z_rf G p b ≠ 0 then z_go ls (.ref (z_rf G p b) :: r) G M else none | _ => none
  | 18 => match st with | .int x :: .ref p :: r => if z_kd G p = (0, a) ∧ 32 ≤ p then z_go ls r G (z_sA M p (z_u (M p) b x)) else none | _ => none
  | 19 => match st with | .ref q :: .ref p :: r => if (z_kd G p = (0, a) ∧ 32 ≤ p) ∧ q ≠ 0 then z_go ls r (z_setR G p b q) M else none | _ => none
  | 20 => match st with | .int y :: .int x :: r => z_go ls (.int (x + y) :: r) G M | _ => none
  | 21 => match st with | .int y :: .int x :: r => z_go ls (.int (x - y) :: r) G M | _ => none
  | 22 => match st with | .int y :: .int x :: r => z_go ls (.int (x * y) :: r) G M | _ => none
  | 23 => match st with | .int y :: .int x :: r => z_go ls (.int (x &&& y) :: r) G M | _ => none
  | 24 => match st with | .int y :: .int x :: r => z_go ls (.int (x ||| y) :: r) G M | _ => none
  | 25 => match st with | .int y :: .int x :: r => z_go ls (.int (x ^^^ y) :: r) G M | _ => none
  | 26 => match st with | .int y :: .int x :: r => z_go ls (.int (x <<< (y &&& 31)) :: r) G M | _ => none
  | 27 => match st with | .int y :: .int x :: r => z_go ls (.int (x >>> (y &&& 31)) :: r) G M | _ => none
  | 28 => match st with | .int y :: .int x :: r => z_go ls (.int (z_ushr x y) :: r) G M | _ => none
  | 29 => match st with | .int y :: .int x :: r => if y = 0 then none else z_go ls (.int (x / y) :: r) G M | _ => none
  | 30 => match st with | .int y :: .int x :: r => if y = 0 then none else z_go ls (.int (x - x / y * y) :: r) G M | _ => none
  | 31 => match st with | .int x :: r => z_go ls (.int (-x) :: r) G M | _ => none
  | 32 => match st with | .int i :: .ref p :: r => if (z_kd G p).1 = 1 ∧ ¬ i < 0 ∧ i.toNatClampNeg < (z_kd G p).2 then z_go ls (.int (M p i.toNatClampNeg) :: r) G M else none | _ => none
  | 33 => match st with | .int x :: .int i :: .ref p :: r => if ((z_kd G p).1 = 1 ∧ 32 ≤ p) ∧ ¬ i < 0 ∧ i.toNatClampNeg < (z_kd G p).2 then z_go ls r G (z_sA M p (z_u (M p) i.toNatClampNeg x)) else none | _ => none
  | 34 => match st with | .int i :: .ref p :: r => if ((3 ≤ (z_kd G p).1 ∧ (z_kd G p).1 ≤ 5 ∧ 32 ≤ p) ∧ ¬ i < 0 ∧ i.toNatClampNeg < (z_kd G p).2) ∧ z_rf G p i.toNatClampNeg ≠ 0 then z_go ls (.ref (z_rf G p i.toNatClampNeg) :: r) G M else none | _ => none
  | 35 => match st with | .ref q :: .int i :: .ref p :: r => if ((((z_kd G p).1 = 3 ∧ z_kd G q = (0, 2)) ∨ ((z_kd G p).1 = 4 ∧ z_kd G q = (0, 5))) ∧ 32 ≤ p ∧ 32 ≤ q) ∧ ¬ i < 0 ∧ i.toNatClampNeg < (z_kd G p).2 then z_go ls r (z_setR G p i.toNatClampNeg q) M else none | _ => none
  | 36 => match st with | .ref p :: r => if (z_kd G p).1 = 1 then z_go ls (.int (Int32.ofNat (z_kd G p).2) :: r) G M else none | _ => none
  | 37 => match st with | .int i :: .ref p :: r => if ((z_kd G p).1 = 2 ∧ 32 ≤ p) ∧ ¬ i < 0 ∧ i.toNatClampNeg < (z_kd G p).2 then z_go ls (.long (z_lg G p i.toNatClampNeg) :: r) G M else none | _ => none
  | 38 => match st with | .long x :: .int i :: .ref p :: r => if ((z_kd G p).1 = 2 ∧ 32 ≤ p) ∧ ¬ i < 0 ∧ i.toNatClampNeg < (z_kd G p).2 then z_go ls r (z_setL G p i.toNatClampNeg x) M else none | _ => none
  | 39 => match st with | v :: r => if v.category = 1 then z_go ls (v :: v :: r) G M else none | _ => none
  | 40 => match st with | v :: w :: r => if v.category = 1 ∧ w.category = 1 then z_go ls (v :: w :: v :: w :: r) G M else none | _ => none
  | 41 => match st with | v :: r => if v.category = 1 then z_go ls r G M else none | _ => none
  | 42 => match st with | .int y :: .int x :: r => if x = y then z_to a ls r G M else z_to b ls r G M | _ => none
  | 43 => match st with | .int y :: .int x :: r => if x = y then z_to b ls r G M else z_to a ls r G M | _ => none
  | 44 => match st with | .int y :: .int x :: r => if x < y then z_to a ls r G M else z_to b ls r G M | _ => none
  | 45 => match st with | .int y :: .int x :: r => if x < y then z_to b ls r G M else z_to a ls r G M | _ => none
  | 46 => match st with | .int y :: .int x :: r => if y < x then z_to a ls r G M else z_to b ls r G M | _ => none
  | 47 => match st with | .int y :: .int x :: r => if y < x then z_to b ls r G M else z_to a ls r G M | _ => none
  | 48 => match st with | .int x :: r => if x = 0 then z_to a ls r G M else z_to b ls r G M | _ => none
  | 49 => match st with | .int x :: r => if x = 0 then z_to b ls r G M else z_to a ls r G M | _ => none
  | 50 => match st with | .int x :: r => if x < 0 then z_to a ls r G M else z_to b ls r G M | _ => none
  | 51 => match st with | .int x :: r => if x < 0 then z_to b ls r G M else z_to a ls r G M | _ => none
  | 52 => match st with | .int x :: r => if 0 < x then z_to a ls r G M else z_to b ls r G M | _ => none
  | 53 => match st with | .int x :: r => if 0 < x then z_to b ls r G M else z_to a ls r G M | _ => none
  | 54 => z_to a ls st G M
  | 55 => z_to a ls st G M
  | 56 => match st with | .int x :: r => z_to (z_swt a x) ls r G M | _ => none
  | 57 => match st with | .int x :: r => z_go ls (.long x.toInt64 :: r) G M | _ => none
  | 58 => match st with | .long y :: .long x :: r => z_go ls (.long (x + y) :: r) G M | _ => none
  | 59 => match st with | .long y :: .long x :: r => z_go ls (.long (x * y) :: r) G M | _ => none
  | 60 => match st with | .long y :: .long x :: r => z_go ls (.int (z_cmpl x y) :: r) G M | _ => none
  | 61 => z_go ls (.long (Int64.ofNat a) :: st) G M
  | 62 => z_go ls (.long (Int64.ofNat a) :: st) G M
  | 63 => (z_cg 63 a b st G).map fun q => .inr (.inr (a, q.1, q.2))
  | 64 => (z_cg 64 a b st G).map fun q => .inr (.inr (a, q.1, q.2))
  | 65 => (z_cg 65 a b st G).map fun q => .inr (.inr (a, q.1, q.2))
  | 66 => (z_cg 66 a b st G).map fun q => .inr (.inr (a, q.1, q.2))
  | 67 => (z_cg 67 a b st G).map fun q => .inr (.inr (a, q.1, q.2))
  | 68 => match st with | .ref _ :: r => if z_cat r ≤ 8 then z_go ls r G M else none | _ => none
  | 69 => match st with | [] => z_dn (.inl none) G M | _ => none
  | 70 => match st with | [.int x] => z_dn (.inl (some (.int x))) G M | _ => none
  | 71 => match st with | [.long x] => z_dn (.inl (some (.long x))) G M | _ => none
  | 72 => match st with | [.int x] => if x = 0 ∨ x = 1 then z_dn (.inl (some (.int x))) G M else none | _ => none
  | 73 => if z_np G = z_nc G + 32 then z_go ls (.ref (z_np G) :: st) (z_new G (0, a) (z_nf a)) (z_sA M (z_np G) (fun _ => 0)) else none
  | 74 => match st with | .int n :: r => if z_np G = z_nc G + 32 ∧ ¬ n < 0 ∧ n.toNatClampNeg ≤ 100000 then z_go ls (.ref (z_np G) :: r) (z_new G (1, n.toNatClampNeg) n.toNatClampNeg) (z_sA M (z_np G) (fun _ => 0)) else none | _ => none
  | 75 => match st with | .int n :: r => if z_np G = z_nc G + 32 ∧ ¬ n < 0 ∧ n.toNatClampNeg ≤ 100000 then z_go ls (.ref (z_np G) :: r) (z_new G (2, n.toNatClampNeg) n.toNatClampNeg) (z_sA M (z_np G) (fun _ => 0)) else none | _ => none
  | 76 => match st with | .int n :: r => if z_np G = z_nc G + 32 ∧ ¬ n < 0 ∧ n.toNatClampNeg ≤ 100000 then z_go ls (.ref (z_np G) :: r) (z_new G (a, n.toNatClampNeg) n.toNatClampNeg) (z_sA M (z_np G) (fun _ => 0)) else none | _ => none
  | 77 => match st with | .int k :: .int n :: r => if z_np G = z_nc G + 32 ∧ (¬ n < 0 ∧ n.toNatClampNeg ≤ 100000) ∧ ¬ k < 0 ∧ k.toNatClampNeg ≤ 100000 then z_go ls (.ref (z_np G) :: r) (z_new2 G n.toNatClampNeg k.toNatClampNeg) (z_new2M G n.toNatClampNeg M) else none | _ => none
  | 78 => z_go ls (.ref a :: st) G M
  | 79 => z_go ls (.ref a :: st) G M
  | 80 => match st with | [.int n, .int dp, .ref q, .int sp, .ref p] => if (((z_kd G p).1 = 1 ∧ 32 ≤ p) ∧ (z_kd G q).1 = 1 ∧ 32 ≤ q) ∧ (¬ sp < 0 ∧ ¬ dp < 0 ∧ ¬ n < 0) ∧ sp.toNatClampNeg + n.toNatClampNeg ≤ (z_kd G p).2 ∧ dp.toNatClampNeg + n.toNatClampNeg ≤ (z_kd G q).2 then z_go ls [] G (z_sA M q (va_cpy (M p) (M q) sp.toNatClampNeg dp.toNatClampNeg n.toNatClampNeg)) else none | _ => none
  | 81 => match st with | .ref p :: r => if (6 ≤ p ∧ p < 20) ∧ z_cat r ≤ 8 then z_go ls (.int (Int32.ofNat (z_tx p).length) :: r) G M else none | _ => none
  | 82 => match st with | .int i :: .ref p :: r => if (6 ≤ p ∧ p < 20) ∧ (¬ i < 0 ∧ i.toNatClampNeg < (z_tx p).length) ∧ z_cat r ≤ 8 then z_go ls (.int (Int32.ofNat ((z_tx p).getD i.toNatClampNeg 0)) :: r) G M else none | _ => none
  | 83 => z_dn (.inr a) (z_thr G) M
  | 84 => z_go ls (.ref a :: st) G M
  | 85 => z_go ls (.ref a :: st) G M
  | _ => none
def z_ent (f : Nat) (av : List Value) : List Value := av ++ List.replicate (z_mxl f - av.length) .null
def z_run : Nat → Nat → List zO → List Value → List Value → zG → zM → Option zD
  | 0, _, _, _, _, _, _ => none
  | _ + 1, _, [], _, _, _, _ => none
  | n + 1, m, op :: ops, ls, st, G, M =>
    match z_step op.1 op.2.1 op.2.2.1 ls st G M with
    | none => none
    | some (.inl (L, ls', st', G', M')) => z_run n m (match L with | none => ops | some t => z_blk m t) ls' st' G' M'
    | some (.inr (.inl d)) => some d
    | some (.inr (.inr (f, av, rest))) =>
      match z_run n f (z_blk f 0) (z_ent f av) [] G M with
      | none => none
      | some (.inl r, G', M') => z_run n m ops ls (r.toList ++ rest) G' M'
      | some (.inr E, G', M') => match z_hd m E with
        | none => if op.1 = 64 then some (.inr E, G', M') else none
        | some (t, k) => match z_put ls k .null with
          | none => none
          | some ls' => z_run n m (z_blk m t) ls' [] G' M'
theorem z_run_up : ∀ (n m : Nat) (ops : List zO) (ls st : List Value) (G : zG) (M : zM) (d : zD), z_run n m ops ls st G M = some d → z_run (n + 1) m ops ls st G M = some d := by
  intro n
  induction n with
  | zero => intro m ops ls st G M d h; simp [z_run] at h
  | succ n ih =>
    intro m ops ls st G M d h
    cases ops with
    | nil => simp [z_run] at h
    | cons op ops =>
      rw [z_run] at h ⊢
      generalize z_step op.1 op.2.1 op.2.2.1 ls st G M = r at h ⊢
      rcases r with _ | ⟨L, ls', st', G', M'⟩ | d' | ⟨f, av, rest⟩
      · exact h
      · exact ih _ _ _ _ _ _ _ h
      · exact h
      · dsimp only at h ⊢
        generalize hc : z_run n f (z_blk f 0) (z_ent f av) [] G M = rc at h
        rcases rc with _ | ⟨q, G', M'⟩
        · cases h
        · rw [ih _ _ _ _ _ _ _ hc]
          rcases q with r | E
          · exact ih _ _ _ _ _ _ _ h
          · dsimp only at h ⊢
            generalize z_hd m E = hh at h ⊢
            rcases hh with _ | ⟨t, k⟩
            · exact h
            · dsimp only at h ⊢
              generalize z_put ls k .null = pp at h ⊢
              rcases pp with _ | ls'
              · exact h
              · exact ih _ _ _ _ _ _ _ h
theorem z_run_le {n k m : Nat} {ops : List zO} {ls st : List Value} {G : zG} {M : zM} {d : zD} (hk : n ≤ k) (h : z_run n m ops ls st G M = some d) : z_run k m ops ls st G M = some d := by
  induction hk with
  | refl => exact h
  | step _ ih => exact z_run_up _ _ _ _ _ _ _ _ ih
/-- what a run comes to, if it ends -/
noncomputable def z_ex (m : Nat) (ops : List zO) (ls st : List Value) (G : zG) (M : zM) : Option zD := by
  classical
  exact if h : ∃ d n, z_run n m ops ls st G M = some d then some (Classical.choose h) else none
theorem z_ex_iff {m : Nat} {ops : List zO} {ls st : List Value} {G : zG} {M : zM} {d : zD} : z_ex m ops ls st G M = some d ↔ ∃ n, z_run n m ops ls st G M = some d := by
  classical
  unfold z_ex
  constructor
  · intro h
    split at h
    · rename_i hh
      cases h
      exact Classical.choose_spec hh
    · cases h
  · rintro ⟨n, hn⟩
    have hh : ∃ d n, z_run n m ops ls st G M = some d := ⟨d, n, hn⟩
    rw [dif_pos hh]
    obtain ⟨n', hn'⟩ := Classical.choose_spec hh
    have h1 := z_run_le (Nat.le_max_left n n') hn
    have h2 := z_run_le (Nat.le_max_right n n') hn'
    rw [h1] at h2
    exact h2.symm
theorem z_ext {a b : Option zD} (h : ∀ d, a = some d ↔ b = some d) : a = b := by
  cases a with
  | none => cases b with
    | none => rfl
    | some d => exact ((h d).mpr rfl).symm ▸ rfl
  | some d => exact ((h d).mp rfl).symm
noncomputable def z_call (f : Nat) (av : List Value) (G : zG) (M : zM) : Option zD := z_ex f (z_blk f 0) (z_ent f av) [] G M
/-- what follows a call -/
noncomputable def z_k (o m : Nat) (ops : List zO) (ls rest : List Value) : Option zD → Option zD
  | none => none
  | some (.inl r, G', M') => z_ex m ops ls (r.toList ++ rest) G' M'
  | some (.inr E, G', M') => match z_hd m E with
    | none => if o = 64 then some (.inr E, G', M') else none
    | some (t, k) => match z_put ls k .null with
      | none => none
      | some ls' => z_ex m (z_blk m t) ls' [] G' M'
theorem z_ex_cons (m : Nat) (op : zO) (ops : List zO) (ls st : List Value) (G : zG) (M : zM) : z_ex m (op :: ops) ls st G M = match z_step op.1 op.2.1 op.2.2.1 ls st G M with
    | none => none
    | some (.inl (L, ls', st', G', M')) => z_ex m (match L with | none => ops | some t => z_blk m t) ls' st' G' M'
    | some (.inr (.inl d)) => some d
    | some (.inr (.inr (f, av, rest))) => z_k op.1 m ops ls rest (z_call f av G M) := by
  apply z_ext
  intro d
  rw [z_ex_iff]
  have e : (∃ n, z_run n m (op :: ops) ls st G M = some d) ↔ ∃ n, z_run (n + 1) m (op :: ops) ls st G M = some d := by
    constructor
    · rintro ⟨n, h⟩; exact ⟨n, z_run_up _ _ _ _ _ _ _ _ h⟩
    · rintro ⟨n, h⟩; exact ⟨n + 1, h⟩
  rw [e]
  simp only [z_run]
  generalize z_step op.1 op.2.1 op.2.2.1 ls st G M = r
  rcases r with _ | ⟨L, ls', st', G', M'⟩ | d' | ⟨f, av, rest⟩
  · simp
  · dsimp only
    rw [z_ex_iff]
  · simp
  · dsimp only
    constructor
    · rintro ⟨n, h⟩
      generalize hc : z_run n f (z_blk f 0) (z_ent f av) [] G M = rc at h
      rcases rc with _ | ⟨q, G', M'⟩
      · cases h
      · have hcc : z_call f av G M = some (q, G', M') := z_ex_iff.mpr ⟨n, hc⟩
        rw [hcc]
        rcases q with r | E
        · exact z_ex_iff.mpr ⟨n, h⟩
        · dsimp only [z_k] at h ⊢
          generalize z_hd m E = hh at h ⊢
          rcases hh with _ | ⟨t, k⟩
          · exact h
          · dsimp only at h ⊢
            generalize z_put ls k .null = pp at h ⊢
            rcases pp with _ | ls'
            · exact h
            · exact z_ex_iff.mpr ⟨n, h⟩
    · intro h
      generalize hcc : z_call f av G M = rc at h
      rcases rc with _ | ⟨q, G', M'⟩
      · simp [z_k] at h
      · obtain ⟨n1, hn1⟩ := z_ex_iff.mp hcc
        rcases q with r | E
        · dsimp only [z_k] at h
          obtain ⟨n2, hn2⟩ := z_ex_iff.mp h
          refine ⟨max n1 n2, ?_⟩
          rw [z_run_le (Nat.le_max_left n1 n2) hn1]
          exact z_run_le (Nat.le_max_right n1 n2) hn2
        · dsimp only [z_k] at h
          generalize hh0 : z_hd m E = hh at h
          rcases hh with _ | ⟨t, k⟩
          · refine ⟨n1, ?_⟩
            rw [hn1]
            dsimp only
            rw [hh0]
            exact h
          · dsimp only at h
            generalize hp0 : z_put ls k .null = pp at h
            rcases pp with _ | ls'
            · cases h
            · obtain ⟨n2, hn2⟩ := z_ex_iff.mp h
              refine ⟨max n1 n2, ?_⟩
              rw [z_run_le (Nat.le_max_left n1 n2) hn1]
              dsimp only
              rw [hh0]
              dsimp only
              rw [hp0]
              exact z_run_le (Nat.le_max_right n1 n2) hn2
end
section
/-! ===== the small machine's laws, an equation an operation ===== -/
section
variable (m a b c pc : Nat) (ops : List zO) (ls st : List Value) (G : zG) (M : zM)
theorem xo_0_0  (x : Int32) (r : List Value) : z_ex m ((0, 0, b, c, pc) :: ops) (.int x :: r) st G M = z_ex m ops (.int x :: r) (.int x :: st) G M := by rw [z_ex_cons]; rfl
theorem xo_0_1 (v0 : Value) (x : Int32) (r : List Value) : z_ex m ((0, 1, b, c, pc) :: ops) (v0 :: .int x :: r) st G M = z_ex m ops (v0 :: .int x :: r) (.int x :: st) G M := by rw [z_ex_cons]; rfl
theorem xo_0_2 (v0 v1 : Value) (x : Int32) (r : List Value) : z_ex m ((0, 2, b, c, pc) :: ops) (v0 :: v1 :: .int x :: r) st G M = z_ex m ops (v0 :: v1 :: .int x :: r) (.int x :: st) G M := by rw [z_ex_cons]; rfl
theorem xo_0_3 (v0 v1 v2 : Value) (x : Int32) (r : List Value) : z_ex m ((0, 3, b, c, pc) :: ops) (v0 :: v1 :: v2 :: .int x :: r) st G M = z_ex m ops (v0 :: v1 :: v2 :: .int x :: r) (.int x :: st) G M := by rw [z_ex_cons]; rfl
theorem xo_1_4 (v0 v1 v2 v3 : Value) (x : Int32) (r : List Value) : z_ex m ((1, 4, b, c, pc) :: ops) (v0 :: v1 :: v2 :: v3 :: .int x :: r) st G M = z_ex m ops (v0 :: v1 :: v2 :: v3 :: .int x :: r) (.int x :: st) G M := by rw [z_ex_cons]; rfl
theorem xo_1_5 (v0 v1 v2 v3 v4 : Value) (x : Int32) (r : List Value) : z_ex m ((1, 5, b, c, pc) :: ops) (v0 :: v1 :: v2 :: v3 :: v4 :: .int x :: r) st G M = z_ex m ops (v0 :: v1 :: v2 :: v3 :: v4 :: .int x :: r) (.int x :: st) G M := by rw [z_ex_cons]; rfl
theorem xo_1_6 (v0 v1 v2 v3 v4 v5 : Value) (x : Int32) (r : List Value) : z_ex m ((1, 6, b, c, pc) :: ops) (v0 :: v1 :: v2 :: v3 :: v4 :: v5 :: .int x :: r) st G M = z_ex m ops (v0 :: v1 :: v2 :: v3 :: v4 :: v5 :: .int x :: r) (.int x :: st) G M := by rw [z_ex_cons]; rfl
theorem xo_1_7 (v0 v1 v2 v3 v4 v5 v6 : Value) (x : Int32) (r : List Value) : z_ex m ((1, 7, b, c, pc) :: ops) (v0 :: v1 :: v2 :: v3 :: v4 :: v5 :: v6 :: .int x :: r) st G M = z_ex m ops (v0 :: v1 :: v2 :: v3 :: v4 :: v5 :: v6 :: .int x :: r) (.int x :: st) G M := by rw [z_ex_cons]; rfl
theorem xo_1_8 (v0 v1 v2 v3 v4 v5 v6 v7 : Value) (x : Int32) (r : List Value) : z_ex m ((1, 8, b, c, pc) :: ops) (v0 :: v1 :: v2 :: v3 :: v4 :: v5 :: v6 :: v7 :: .int x :: r) st G M = z_ex m ops (v0 :: v1 :: v2 :: v3 :: v4 :: v5 :: v6 :: v7 :: .int x :: r) (.int x :: st) G M := by rw [z_ex_cons]; rfl
theorem xo_1_9 (v0 v1 v2 v3 v4 v5 v6 v7 v8 : Value) (x : Int32) (r : List Value) : z_ex m ((1, 9, b, c, pc) :: ops) (v0 :: v1 :: v2 :: v3 :: v4 :: v5 :: v6 :: v7 :: v8 :: .int x :: r) st G M = z_ex m ops (v0 :: v1 :: v2 :: v3 :: v4 :: v5 :: v6 :: v7 :: v8 :: .int x :: r) (.int x :: st) G M := by rw [z_ex_cons]; rfl
theorem xo_1_10 (v0 v1 v2 v3 v4 v5 v6 v7 v8 v9 : Value) (x : Int32) (r : List Value) : z_ex m ((1, 10, b, c, pc) :: ops) (v0 :: v1 :: v2 :: v3 :: v4 :: v5 :: v6 :: v7 :: v8 :: v9 :: .int x :: r) st G M = z_ex m ops (v0 :: v1 :: v2 :: v3 :: v4 :: v5 :: v6 :: v7 :: v8 :: v9 :: .int x :: r) (.int x :: st) G M := by rw [z_ex_cons]; rfl
theorem xo_1_11 (v0 v1 v2 v3 v4 v5 v6 v7 v8 v9 v10 : Value) (x : Int32) (r : List Value) : z_ex m ((1, 11, b, c, pc) :: ops) (v0 :: v1 :: v2 :: v3 :: v4 :: v5 :: v6 :: v7 :: v8 :: v9 :: v10 :: .int x :: r) st G M = z_ex m ops (v0 :: v1 :: v2 :: v3 :: v4 :: v5 :: v6 :: v7 :: v8 :: v9 :: v10 :: .int x :: r) (.int x :: st) G M := by rw [z_ex_cons]; rfl
theorem xo_2_0  (x : Nat) (r : List Value) : z_ex m ((2, 0, b, c, pc) :: ops) (.ref x :: r) st G M = z_ex m ops (.ref x :: r) (.ref x :: st) G M := by rw [z_ex_cons]; rfl
theorem xo_2_1 (v0 : Value) (x : Nat) (r : List Value) : z_ex m ((2, 1, b, c, pc) :: ops) (v0 :: .ref x :: r) st G M = z_ex m ops (v0 :: .ref x :: r) (.ref x :: st) G M := by rw [z_ex_cons]; rfl
theorem xo_2_2 (v0 v1 : Value) (x : Nat) (r : List Value) : z_ex m ((2, 2, b, c, pc) :: ops) (v0 :: v1 :: .ref x :: r) st G M = z_ex m ops (v0 :: v1 :: .ref x :: r) (.ref x :: st) G M := by rw [z_ex_cons]; rfl
theorem xo_2_3 (v0 v1 v2 : Value) (x : Nat) (r : List Value) : z_ex m ((2, 3, b, c, pc) :: ops) (v0 :: v1 :: v2 :: .ref x :: r) st G M = z_ex m ops (v0 :: v1 :: v2 :: .ref x :: r) (.ref x :: st) G M := by rw [z_ex_cons]; rfl
theorem xo_3_4 (v0 v1 v2 v3 : Value) (x : Nat) (r : List Value) : z_ex m ((3, 4, b, c, pc) :: ops) (v0 :: v1 :: v2 :: v3 :: .ref x :: r) st G M = z_ex m ops (v0 :: v1 :: v2 :: v3 :: .ref x :: r) (.ref x :: st) G M := by rw [z_ex_cons]; rfl
theorem xo_3_5 (v0 v1 v2 v3 v4 : Value) (x : Nat) (r : List Value) : z_ex m ((3, 5, b, c, pc) :: ops) (v0 :: v1 :: v2 :: v3 :: v4 :: .ref x :: r) st G M = z_ex m ops (v0 :: v1 :: v2 :: v3 :: v4 :: .ref x :: r) (.ref x :: st) G M := by rw [z_ex_cons]; rfl
theorem xo_3_6 (v0 v1 v2 v3 v4 v5 : Value) (x : Nat) (r : List Value) : z_ex m ((3, 6, b, c, pc) :: ops) (v0 :: v1 :: v2 :: v3 :: v4 :: v5 :: .ref x :: r) st G M = z_ex m ops (v0 :: v1 :: v2 :: v3 :: v4 :: v5 :: .ref x :: r) (.ref x :: st) G M := by rw [z_ex_cons]; rfl
theorem xo_3_7 (v0 v1 v2 v3 v4 v5 v6 : Value) (x : Nat) (r : List Value) : z_ex m ((3, 7, b, c, pc) :: ops) (v0 :: v1 :: v2 :: v3 :: v4 :: v5 :: v6 :: .ref x :: r) st G M = z_ex m ops (v0 :: v1 :: v2 :: v3 :: v4 :: v5 :: v6 :: .ref x :: r) (.ref x :: st) G M := by rw [z_ex_cons]; rfl
theorem xo_3_8 (v0 v1 v2 v3 v4 v5 v6 v7 : Value) (x : Nat) (r : List Value) : z_ex m ((3, 8, b, c, pc) :: ops) (v0 :: v1 :: v2 :: v3 :: v4 :: v5 :: v6 :: v7 :: .ref x :: r) st G M = z_ex m ops (v0 :: v1 :: v2 :: v3 :: v4 :: v5 :: v6 :: v7 :: .ref x :: r) (.ref x :: st) G M := by rw [z_ex_cons]; rfl
theorem xo_3_9 (v0 v1 v2 v3 v4 v5 v6 v7 v8 : Value) (x : Nat) (r : List Value) : z_ex m ((3, 9, b, c, pc) :: ops) (v0 :: v1 :: v2 :: v3 :: v4 :: v5 :: v6 :: v7 :: v8 :: .ref x :: r) st G M = z_ex m ops (v0 :: v1 :: v2 :: v3 :: v4 :: v5 :: v6 :: v7 :: v8 :: .ref x :: r) (.ref x :: st) G M := by rw [z_ex_cons]; rfl
theorem xo_3_10 (v0 v1 v2 v3 v4 v5 v6 v7 v8 v9 : Value) (x : Nat) (r : List Value) : z_ex m ((3, 10, b, c, pc) :: ops) (v0 :: v1 :: v2 :: v3 :: v4 :: v5 :: v6 :: v7 :: v8 :: v9 :: .ref x :: r) st G M = z_ex m ops (v0 :: v1 :: v2 :: v3 :: v4 :: v5 :: v6 :: v7 :: v8 :: v9 :: .ref x :: r) (.ref x :: st) G M := by rw [z_ex_cons]; rfl
theorem xo_3_11 (v0 v1 v2 v3 v4 v5 v6 v7 v8 v9 v10 : Value) (x : Nat) (r : List Value) : z_ex m ((3, 11, b, c, pc) :: ops) (v0 :: v1 :: v2 :: v3 :: v4 :: v5 :: v6 :: v7 :: v8 :: v9 :: v10 :: .ref x :: r) st G M = z_ex m ops (v0 :: v1 :: v2 :: v3 :: v4 :: v5 :: v6 :: v7 :: v8 :: v9 :: v10 :: .ref x :: r) (.ref x :: st) G M := by rw [z_ex_cons]; rfl
theorem xo_4_0  (x : Int64) (r : List Value) : z_ex m ((4, 0, b, c, pc) :: ops) (.long x :: r) st G M = z_ex m ops (.long x :: r) (.long x :: st) G M := by rw [z_ex_cons]; rfl
theorem xo_4_1 (v0 : Value) (x : Int64) (r : List Value) : z_ex m ((4, 1, b, c, pc) :: ops) (v0 :: .long x :: r) st G M = z_ex m ops (v0 :: .long x :: r) (.long x :: st) G M := by rw [z_ex_cons]; rfl
theorem xo_4_2 (v0 v1 : Value) (x : Int64) (r : List Value) : z_ex m ((4, 2, b, c, pc) :: ops) (v0 :: v1 :: .long x :: r) st G M = z_ex m ops (v0 :: v1 :: .long x :: r) (.long x :: st) G M := by rw [z_ex_cons]; rfl
theorem xo_4_3 (v0 v1 v2 : Value) (x : Int64) (r : List Value) : z_ex m ((4, 3, b, c, pc) :: ops) (v0 :: v1 :: v2 :: .long x :: r) st G M = z_ex m ops (v0 :: v1 :: v2 :: .long x :: r) (.long x :: st) G M := by rw [z_ex_cons]; rfl
theorem xo_5 : z_ex m ((5, a, b, c, pc) :: ops) ls st G M = z_ex m ops ls (.int (nI a) :: st) G M := by rw [z_ex_cons]; rfl
theorem xo_6 : z_ex m ((6, a, b, c, pc) :: ops) ls st G M = z_ex m ops ls (.int (nI a) :: st) G M := by rw [z_ex_cons]; rfl
theorem xo_7 : z_ex m ((7, a, b, c, pc) :: ops) ls st G M = z_ex m ops ls (.int (nI a) :: st) G M := by rw [z_ex_cons]; rfl
theorem xo_8 : z_ex m ((8, a, b, c, pc) :: ops) ls st G M = z_ex m ops ls (.int (nI a) :: st) G M := by rw [z_ex_cons]; rfl
theorem xo_9 : z_ex m ((9, a, b, c, pc) :: ops) ls st G M = z_ex m ops ls (.int (nI a) :: st) G M := by rw [z_ex_cons]; rfl
theorem xo_10_0   (w : Value) (x : Int32) (r : List Value) : z_ex m ((10, 0, b, c, pc) :: ops) (w :: r) (.int x :: st) G M = z_ex m ops (.int x :: r) st G M := by rw [z_ex_cons]; rfl
theorem xo_10_1i  (y : Int32) (w : Value) (x : Int32) (r : List Value) : z_ex m ((10, 1, b, c, pc) :: ops) (.int y :: w :: r) (.int x :: st) G M = z_ex m ops (.int y :: .int x :: r) st G M := by rw [z_ex_cons]; rfl
theorem xo_10_1r  (y : Nat) (w : Value) (x : Int32) (r : List Value) : z_ex m ((10, 1, b, c, pc) :: ops) (.ref y :: w :: r) (.int x :: st) G M = z_ex m ops (.ref y :: .int x :: r) st G M := by rw [z_ex_cons]; rfl
theorem xo_10_1n   (w : Value) (x : Int32) (r : List Value) : z_ex m ((10, 1, b, c, pc) :: ops) (.null :: w :: r) (.int x :: st) G M = z_ex m ops (.null :: .int x :: r) st G M := by rw [z_ex_cons]; rfl
theorem xo_10_2i (v0 : Value) (y : Int32) (w : Value) (x : Int32) (r : List Value) : z_ex m ((10, 2, b, c, pc) :: ops) (v0 :: .int y :: w :: r) (.int x :: st) G M = z_ex m ops (v0 :: .int y :: .int x :: r) st G M := by rw [z_ex_cons]; rfl
theorem xo_10_2r (v0 : Value) (y : Nat) (w : Value) (x : Int32) (r : List Value) : z_ex m ((10, 2, b, c, pc) :: ops) (v0 :: .ref y :: w :: r) (.int x :: st) G M = z_ex m ops (v0 :: .ref y :: .int x :: r) st G M := by rw [z_ex_cons]; rfl
theorem xo_10_2n (v0 : Value)  (w : Value) (x : Int32) (r : List Value) : z_ex m ((10, 2, b, c, pc) :: ops) (v0 :: .null :: w :: r) (.int x :: st) G M = z_ex m ops (v0 :: .null :: .int x :: r) st G M := by rw [z_ex_cons]; rfl
theorem xo_10_3i (v0 v1 : Value) (y : Int32) (w : Value) (x : Int32) (r : List Value) : z_ex m ((10, 3, b, c, pc) :: ops) (v0 :: v1 :: .int y :: w :: r) (.int x :: st) G M = z_ex m ops (v0 :: v1 :: .int y :: .int x :: r) st G M := by rw [z_ex_cons]; rfl
theorem xo_10_3r (v0 v1 : Value) (y : Nat) (w : Value) (x : Int32) (r : List Value) : z_ex m ((10, 3, b, c, pc) :: ops) (v0 :: v1 :: .ref y :: w :: r) (.int x :: st) G M = z_ex m ops (v0 :: v1 :: .ref y :: .int x :: r) st G M := by rw [z_ex_cons]; rfl
theorem xo_10_3n (v0 v1 : Value)  (w : Value) (x : Int32) (r : List Value) : z_ex m ((10, 3, b, c, pc) :: ops) (v0 :: v1 :: .null :: w :: r) (.int x :: st) G M = z_ex m ops (v0 :: v1 :: .null :: .int x :: r) st G M := by rw [z_ex_cons]; rfl
theorem xo_11_4i (v0 v1 v2 : Value) (y : Int32) (w : Value) (x : Int32) (r : List Value) : z_ex m ((11, 4, b, c, pc) :: ops) (v0 :: v1 :: v2 :: .int y :: w :: r) (.int x :: st) G M = z_ex m ops (v0 :: v1 :: v2 :: .int y :: .int x :: r) st G M := by rw [z_ex_cons]; rfl
theorem xo_11_4r (v0 v1 v2 : Value) (y : Nat) (w : Value) (x : Int32) (r : List Value) : z_ex m ((11, 4, b, c, pc) :: ops) (v0 :: v1 :: v2 :: .ref y :: w :: r) (.int x :: st) G M = z_ex m ops (v0 :: v1 :: v2 :: .ref y :: .int x :: r) st G M := by rw [z_ex_cons]; rfl
theorem xo_11_4n (v0 v1 v2 : Value)  (w : Value) (x : Int32) (r : List Value) : z_ex m ((11, 4, b, c, pc) :: ops) (v0 :: v1 :: v2 :: .null :: w :: r) (.int x :: st) G M = z_ex m ops (v0 :: v1 :: v2 :: .null :: .int x :: r) st G M := by rw [z_ex_cons]; rfl
theorem xo_11_5i (v0 v1 v2 v3 : Value) (y : Int32) (w : Value) (x : Int32) (r : List Value) : z_ex m ((11, 5, b, c, pc) :: ops) (v0 :: v1 :: v2 :: v3 :: .int y :: w :: r) (.int x :: st) G M = z_ex m ops (v0 :: v1 :: v2 :: v3 :: .int y :: .int x :: r) st G M := by rw [z_ex_cons]; rfl
theorem xo_11_5r (v0 v1 v2 v3 : Value) (y : Nat) (w : Value) (x : Int32) (r : List Value) : z_ex m ((11, 5, b, c, pc) :: ops) (v0 :: v1 :: v2 :: v3 :: .ref y :: w :: r) (.int x :: st) G M = z_ex m ops (v0 :: v1 :: v2 :: v3 :: .ref y :: .int x :: r) st G M := by rw [z_ex_cons]; rfl
theorem xo_11_5n (v0 v1 v2 v3 : Value)  (w : Value) (x : Int32) (r : List Value) : z_ex m ((11, 5, b, c, pc) :: ops) (v0 :: v1 :: v2 :: v3 :: .null :: w :: r) (.int x :: st) G M = z_ex m ops (v0 :: v1 :: v2 :: v3 :: .null :: .int x :: r) st G M := by rw [z_ex_cons]; rfl
theorem xo_11_6i (v0 v1 v2 v3 v4 : Value) (y : Int32) (w : Value) (x : Int32) (r : List Value) : z_ex m ((11, 6, b, c, pc) :: ops) (v0 :: v1 :: v2 :: v3 :: v4 :: .int y :: w :: r) (.int x :: st) G M = z_ex m ops (v0 :: v1 :: v2 :: v3 :: v4 :: .int y :: .int x :: r) st G M := by rw [z_ex_cons]; rfl
theorem xo_11_6r (v0 v1 v2 v3 v4 : Value) (y : Nat) (w : Value) (x : Int32) (r : List Value) : z_ex m ((11, 6, b, c, pc) :: ops) (v0 :: v1 :: v2 :: v3 :: v4 :: .ref y :: w :: r) (.int x :: st) G M = z_ex m ops (v0 :: v1 :: v2 :: v3 :: v4 :: .ref y :: .int x :: r) st G M := by rw [z_ex_cons]; rfl
theorem xo_11_6n (v0 v1 v2 v3 v4 : Value)  (w : Value) (x : Int32) (r : List Value) : z_ex m ((11, 6, b, c, pc) :: ops) (v0 :: v1 :: v2 :: v3 :: v4 :: .null :: w :: r) (.int x :: st) G M = z_ex m ops (v0 :: v1 :: v2 :: v3 :: v4 :: .null :: .int x :: r) st G M := by rw [z_ex_cons]; rfl
theorem xo_11_7i (v0 v1 v2 v3 v4 v5 : Value) (y : Int32) (w : Value) (x : Int32) (r : List Value) : z_ex m ((11, 7, b, c, pc) :: ops) (v0 :: v1 :: v2 :: v3 :: v4 :: v5 :: .int y :: w :: r) (.int x :: st) G M = z_ex m ops (v0 :: v1 :: v2 :: v3 :: v4 :: v5 :: .int y :: .int x :: r) st G M := by rw [z_ex_cons]; rfl
theorem xo_11_7r (v0 v1 v2 v3 v4 v5 : Value) (y : Nat) (w : Value) (x : Int32) (r : List Value) : z_ex m ((11, 7, b, c, pc) :: ops) (v0 :: v1 :: v2 :: v3 :: v4 :: v5 :: .ref y :: w :: r) (.int x :: st) G M = z_ex m ops (v0 :: v1 :: v2 :: v3 :: v4 :: v5 :: .ref y :: .int x :: r) st G M := by rw [z_ex_cons]; rfl
theorem xo_11_7n (v0 v1 v2 v3 v4 v5 : Value)  (w : Value) (x : Int32) (r : List Value) : z_ex m ((11, 7, b, c, pc) :: ops) (v0 :: v1 :: v2 :: v3 :: v4 :: v5 :: .null :: w :: r) (.int x :: st) G M = z_ex m ops (v0 :: v1 :: v2 :: v3 :: v4 :: v5 :: .null :: .int x :: r) st G M := by rw [z_ex_cons]; rfl
theorem xo_11_8i (v0 v1 v2 v3 v4 v5 v6 : Value) (y : Int32) (w : Value) (x : Int32) (r : List Value) : z_ex m ((11, 8, b, c, pc) :: ops) (v0 :: v1 :: v2 :: v3 :: v4 :: v5 :: v6 :: .int y :: w :: r) (.int x :: st) G M = z_ex m ops (v0 :: v1 :: v2 :: v3 :: v4 :: v5 :: v6 :: .int y :: .int x :: r) st G M := by rw [z_ex_cons]; rfl
theorem xo_11_8r (v0 v1 v2 v3 v4 v5 v6 : Value) (y : Nat) (w : Value) (x : Int32) (r : List Value) : z_ex m ((11, 8, b, c, pc) :: ops) (v0 :: v1 :: v2 :: v3 :: v4 :: v5 :: v6 :: .ref y :: w :: r) (.int x :: st) G M = z_ex m ops (v0 :: v1 :: v2 :: v3 :: v4 :: v5 :: v6 :: .ref y :: .int x :: r) st G M := by rw [z_ex_cons]; rfl
theorem xo_11_8n (v0 v1 v2 v3 v4 v5 v6 : Value)  (w : Value) (x : Int32) (r : List Value) : z_ex m ((11, 8, b, c, pc) :: ops) (v0 :: v1 :: v2 :: v3 :: v4 :: v5 :: v6 :: .null :: w :: r) (.int x :: st) G M = z_ex m ops (v0 :: v1 :: v2 :: v3 :: v4 :: v5 :: v6 :: .null :: .int x :: r) st G M := by rw [z_ex_cons]; rfl
theorem xo_11_9i (v0 v1 v2 v3 v4 v5 v6 v7 : Value) (y : Int32) (w : Value) (x : Int32) (r : List Value) : z_ex m ((11, 9, b, c, pc) :: ops) (v0 :: v1 :: v2 :: v3 :: v4 :: v5 :: v6 :: v7 :: .int y :: w :: r) (.int x :: st) G M = z_ex m ops (v0 :: v1 :: v2 :: v3 :: v4 :: v5 :: v6 :: v7 :: .int y :: .int x :: r) st G M := by rw [z_ex_cons]; rfl
theorem xo_11_9r (v0 v1 v2 v3 v4 v5 v6 v7 : Value) (y : Nat) (w : Value) (x : Int32) (r : List Value) : z_ex m ((11, 9, b, c, pc) :: ops) (v0 :: v1 :: v2 :: v3 :: v4 :: v5 :: v6 :: v7 :: .ref y :: w :: r) (.int x :: st) G M = z_ex m ops (v0 :: v1 :: v2 :: v3 :: v4 :: v5 :: v6 :: v7 :: .ref y :: .int x :: r) st G M := by rw [z_ex_cons]; rfl
theorem xo_11_9n (v0 v1 v2 v3 v4 v5 v6 v7 : Value)  (w : Value) (x : Int32) (r : List Value) : z_ex m ((11, 9, b, c, pc) :: ops) (v0 :: v1 :: v2 :: v3 :: v4 :: v5 :: v6 :: v7 :: .null :: w :: r) (.int x :: st) G M = z_ex m ops (v0 :: v1 :: v2 :: v3 :: v4 :: v5 :: v6 :: v7 :: .null :: .int x :: r) st G M := by rw [z_ex_cons]; rfl
theorem xo_11_10i (v0 v1 v2 v3 v4 v5 v6 v7 v8 : Value) (y : Int32) (w : Value) (x : Int32) (r : List Value) : z_ex m ((11, 10, b, c, pc) :: ops) (v0 :: v1 :: v2 :: v3 :: v4 :: v5 :: v6 :: v7 :: v8 :: .int y :: w :: r) (.int x :: st) G M = z_ex m ops (v0 :: v1 :: v2 :: v3 :: v4 :: v5 :: v6 :: v7 :: v8 :: .int y :: .int x :: r) st G M := by rw [z_ex_cons]; rfl
theorem xo_11_10r (v0 v1 v2 v3 v4 v5 v6 v7 v8 : Value) (y : Nat) (w : Value) (x : Int32) (r : List Value) : z_ex m ((11, 10, b, c, pc) :: ops) (v0 :: v1 :: v2 :: v3 :: v4 :: v5 :: v6 :: v7 :: v8 :: .ref y :: w :: r) (.int x :: st) G M = z_ex m ops (v0 :: v1 :: v2 :: v3 :: v4 :: v5 :: v6 :: v7 :: v8 :: .ref y :: .int x :: r) st G M := by rw [z_ex_cons]; rfl
theorem xo_11_10n (v0 v1 v2 v3 v4 v5 v6 v7 v8 : Value)  (w : Value) (x : Int32) (r : List Value) : z_ex m ((11, 10, b, c, pc) :: ops) (v0 :: v1 :: v2 :: v3 :: v4 :: v5 :: v6 :: v7 :: v8 :: .null :: w :: r) (.int x :: st) G M = z_ex m ops (v0 :: v1 :: v2 :: v3 :: v4 :: v5 :: v6 :: v7 :: v8 :: .null :: .int x :: r) st G M := by rw [z_ex_cons]; rfl
theorem xo_11_11i (v0 v1 v2 v3 v4 v5 v6 v7 v8 v9 : Value) (y : Int32) (w : Value) (x : Int32) (r : List Value) : z_ex m ((11, 11, b, c, pc) :: ops) (v0 :: v1 :: v2 :: v3 :: v4 :: v5 :: v6 :: v7 :: v8 :: v9 :: .int y :: w :: r) (.int x :: st) G M = z_ex m ops (v0 :: v1 :: v2 :: v3 :: v4 :: v5 :: v6 :: v7 :: v8 :: v9 :: .int y :: .int x :: r) st G M := by rw [z_ex_cons]; rfl
theorem xo_11_11r (v0 v1 v2 v3 v4 v5 v6 v7 v8 v9 : Value) (y : Nat) (w : Value) (x : Int32) (r : List Value) : z_ex m ((11, 11, b, c, pc) :: ops) (v0 :: v1 :: v2 :: v3 :: v4 :: v5 :: v6 :: v7 :: v8 :: v9 :: .ref y :: w :: r) (.int x :: st) G M = z_ex m ops (v0 :: v1 :: v2 :: v3 :: v4 :: v5 :: v6 :: v7 :: v8 :: v9 :: .ref y :: .int x :: r) st G M := by rw [z_ex_cons]; rfl
theorem xo_11_11n (v0 v1 v2 v3 v4 v5 v6 v7 v8 v9 : Value)  (w : Value) (x : Int32) (r : List Value) : z_ex m ((11, 11, b, c, pc) :: ops) (v0 :: v1 :: v2 :: v3 :: v4 :: v5 :: v6 :: v7 :: v8 :: v9 :: .null :: w :: r) (.int x :: st) G M = z_ex m ops (v0 :: v1 :: v2 :: v3 :: v4 :: v5 :: v6 :: v7 :: v8 :: v9 :: .null :: .int x :: r) st G M := by rw [z_ex_cons]; rfl
theorem xo_12_0   (w : Value) (x : Nat) (r : List Value) : z_ex m ((12, 0, b, c, pc) :: ops) (w :: r) (.ref x :: st) G M = z_ex m ops (.ref x :: r) st G M := by rw [z_ex_cons]; rfl
theorem xo_12_1i  (y : Int32) (w : Value) (x : Nat) (r : List Value) : z_ex m ((12, 1, b, c, pc) :: ops) (.int y :: w :: r) (.ref x :: st) G M = z_ex m ops (.int y :: .ref x :: r) st G M := by rw [z_ex_cons]; rfl
theorem xo_12_1r  (y : Nat) (w : Value) (x : Nat) (r : List Value) : z_ex m ((12, 1, b, c, pc) :: ops) (.ref y :: w :: r) (.ref x :: st) G M = z_ex m ops (.ref y :: .ref x :: r) st G M := by rw [z_ex_cons]; rfl
theorem xo_12_1n   (w : Value) (x : Nat) (r : List Value) : z_ex m ((12, 1, b, c, pc) :: ops) (.null :: w :: r) (.ref x :: st) G M = z_ex m ops (.null :: .ref x :: r) st G M := by rw [z_ex_cons]; rfl
theorem xo_12_2i (v0 : Value) (y : Int32) (w : Value) (x : Nat) (r : List Value) : z_ex m ((12, 2, b, c, pc) :: ops) (v0 :: .int y :: w :: r) (.ref x :: st) G M = z_ex m ops (v0 :: .int y :: .ref x :: r) st G M := by rw [z_ex_cons]; rfl
theorem xo_12_2r (v0 : Value) (y : Nat) (w : Value) (x : Nat) (r : List Value) : z_ex m ((12, 2, b, c, pc) :: ops) (v0 :: .ref y :: w :: r) (.ref x :: st) G M = z_ex m ops (v0 :: .ref y :: .ref x :: r) st G M := by rw [z_ex_cons]; rfl
theorem xo_12_2n (v0 : Value)  (w : Value) (x : Nat) (r : List Value) : z_ex m ((12, 2, b, c, pc) :: ops) (v0 :: .null :: w :: r) (.ref x :: st) G M = z_ex m ops (v0 :: .null :: .ref x :: r) st G M := by rw [z_ex_cons]; rfl
theorem xo_12_3i (v0 v1 : Value) (y : Int32) (w : Value) (x : Nat) (r : List Value) : z_ex m ((12, 3, b, c, pc) :: ops) (v0 :: v1 :: .int y :: w :: r) (.ref x :: st) G M = z_ex m ops (v0 :: v1 :: .int y :: .ref x :: r) st G M := by rw [z_ex_cons]; rfl
theorem xo_12_3r (v0 v1 : Value) (y : Nat) (w : Value) (x : Nat) (r : List Value) : z_ex m ((12, 3, b, c, pc) :: ops) (v0 :: v1 :: .ref y :: w :: r) (.ref x :: st) G M = z_ex m ops (v0 :: v1 :: .ref y :: .ref x :: r) st G M := by rw [z_ex_cons]; rfl
theorem xo_12_3n (v0 v1 : Value)  (w : Value) (x : Nat) (r : List Value) : z_ex m ((12, 3, b, c, pc) :: ops) (v0 :: v1 :: .null :: w :: r) (.ref x :: st) G M = z_ex m ops (v0 :: v1 :: .null :: .ref x :: r) st G M := by rw [z_ex_cons]; rfl
theorem xo_13_4i (v0 v1 v2 : Value) (y : Int32) (w : Value) (x : Nat) (r : List Value) : z_ex m ((13, 4, b, c, pc) :: ops) (v0 :: v1 :: v2 :: .int y :: w :: r) (.ref x :: st) G M = z_ex m ops (v0 :: v1 :: v2 :: .int y :: .ref x :: r) st G M := by rw [z_ex_cons]; rfl
theorem xo_13_4r (v0 v1 v2 : Value) (y : Nat) (w : Value) (x : Nat) (r : List Value) : z_ex m ((13, 4, b, c, pc) :: ops) (v0 :: v1 :: v2 :: .ref y :: w :: r) (.ref x :: st) G M = z_ex m ops (v0 :: v1 :: v2 :: .ref y :: .ref x :: r) st G M := by rw [z_ex_cons]; rfl
theorem xo_13_4n (v0 v1 v2 : Value)  (w : Value) (x : Nat) (r : List Value) : z_ex m ((13, 4, b, c, pc) :: ops) (v0 :: v1 :: v2 :: .null :: w :: r) (.ref x :: st) G M = z_ex m ops (v0 :: v1 :: v2 :: .null :: .ref x :: r) st G M := by rw [z_ex_cons]; rfl
theorem xo_13_5i (v0 v1 v2 v3 : Value) (y : Int32) (w : Value) (x : Nat) (r : List Value) : z_ex m ((13, 5, b, c, pc) :: ops) (v0 :: v1 :: v2 :: v3 :: .int y :: w :: r) (.ref x :: st) G M = z_ex m ops (v0 :: v1 :: v2 :: v3 :: .int y :: .ref x :: r) st G M := by rw [z_ex_cons]; rfl
theorem xo_13_5r (v0 v1 v2 v3 : Value) (y : Nat) (w : Value) (x : Nat) (r : List Value) : z_ex m ((13, 5, b, c, pc) :: ops) (v0 :: v1 :: v2 :: v3 :: .ref y :: w :: r) (.ref x :: st) G M = z_ex m ops (v0 :: v1 :: v2 :: v3 :: .ref y :: .ref x :: r) st G M := by rw [z_ex_cons]; rfl
theorem xo_13_5n (v0 v1 v2 v3 : Value)  (w : Value) (x : Nat) (r : List Value) : z_ex m ((13, 5, b, c, pc) :: ops) (v0 :: v1 :: v2 :: v3 :: .null :: w :: r) (.ref x :: st) G M = z_ex m ops (v0 :: v1 :: v2 :: v3 :: .null :: .ref x :: r) st G M := by rw [z_ex_cons]; rfl
theorem xo_13_6i (v0 v1 v2 v3 v4 : Value) (y : Int32) (w : Value) (x : Nat) (r : List Value) : z_ex m ((13, 6, b, c, pc) :: ops) (v0 :: v1 :: v2 :: v3 :: v4 :: .int y :: w :: r) (.ref x :: st) G M = z_ex m ops (v0 :: v1 :: v2 :: v3 :: v4 :: .int y :: .ref x :: r) st G M := by rw [z_ex_cons]; rfl
theorem xo_13_6r (v0 v1 v2 v3 v4 : Value) (y : Nat) (w : Value) (x : Nat) (r : List Value) : z_ex m ((13, 6, b, c, pc) :: ops) (v0 :: v1 :: v2 :: v3 :: v4 :: .ref y :: w :: r) (.ref x :: st) G M = z_ex m ops (v0 :: v1 :: v2 :: v3 :: v4 :: .ref y :: .ref x :: r) st G M := by rw [z_ex_cons]; rfl
theorem xo_13_6n (v0 v1 v2 v3 v4 : Value)  (w : Value) (x : Nat) (r : List Value) : z_ex m ((13, 6, b, c, pc) :: ops) (v0 :: v1 :: v2 :: v3 :: v4 :: .null :: w :: r) (.ref x :: st) G M = z_ex m ops (v0 :: v1 :: v2 :: v3 :: v4 :: .null :: .ref x :: r) st G M := by rw [z_ex_cons]; rfl
theorem xo_13_7i (v0 v1 v2 v3 v4 v5 : Value) (y : Int32) (w : Value) (x : Nat) (r : List Value) : z_ex m ((13, 7, b, c, pc) :: ops) (v0 :: v1 :: v2 :: v3 :: v4 :: v5 :: .int y :: w :: r) (.ref x :: st) G M = z_ex m ops (v0 :: v1 :: v2 :: v3 :: v4 :: v5 :: .int y :: .ref x :: r) st G M := by rw [z_ex_cons]; rfl
theorem xo_13_7r (v0 v1 v2 v3 v4 v5 : Value) (y : Nat) (w : Value) (x : Nat) (r : List Value) : z_ex m ((13, 7, b, c, pc) :: ops) (v0 :: v1 :: v2 :: v3 :: v4 :: v5 :: .ref y :: w :: r) (.ref x :: st) G M = z_ex m ops (v0 :: v1 :: v2 :: v3 :: v4 :: v5 :: .ref y :: .ref x :: r) st G M := by rw [z_ex_cons]; rfl
theorem xo_13_7n (v0 v1 v2 v3 v4 v5 : Value)  (w : Value) (x : Nat) (r : List Value) : z_ex m ((13, 7, b, c, pc) :: ops) (v0 :: v1 :: v2 :: v3 :: v4 :: v5 :: .null :: w :: r) (.ref x :: st) G M = z_ex m ops (v0 :: v1 :: v2 :: v3 :: v4 :: v5 :: .null :: .ref x :: r) st G M := by rw [z_ex_cons]; rfl
theorem xo_13_8i (v0 v1 v2 v3 v4 v5 v6 : Value) (y : Int32) (w : Value) (x : Nat) (r : List Value) : z_ex m ((13, 8, b, c, pc) :: ops) (v0 :: v1 :: v2 :: v3 :: v4 :: v5 :: v6 :: .int y :: w :: r) (.ref x :: st) G M = z_ex m ops (v0 :: v1 :: v2 :: v3 :: v4 :: v5 :: v6 :: .int y :: .ref x :: r) st G M := by rw [z_ex_cons]; rfl
theorem xo_13_8r (v0 v1 v2 v3 v4 v5 v6 : Value) (y : Nat) (w : Value) (x : Nat) (r : List Value) : z_ex m ((13, 8, b, c, pc) :: ops) (v0 :: v1 :: v2 :: v3 :: v4 :: v5 :: v6 :: .ref y :: w :: r) (.ref x :: st) G M = z_ex m ops (v0 :: v1 :: v2 :: v3 :: v4 :: v5 :: v6 :: .ref y :: .ref x :: r) st G M := by rw [z_ex_cons]; rfl
theorem xo_13_8n (v0 v1 v2 v3 v4 v5 v6 : Value)  (w : Value) (x : Nat) (r : List Value) : z_ex m ((13, 8, b, c, pc) :: ops) (v0 :: v1 :: v2 :: v3 :: v4 :: v5 :: v6 :: .null :: w :: r) (.ref x :: st) G M = z_ex m ops (v0 :: v1 :: v2 :: v3 :: v4 :: v5 :: v6 :: .null :: .ref x :: r) st G M := by rw [z_ex_cons]; rfl
theorem xo_13_9i (v0 v1 v2 v3 v4 v5 v6 v7 : Value) (y : Int32) (w : Value) (x : Nat) (r : List Value) : z_ex m ((13, 9, b, c, pc) :: ops) (v0 :: v1 :: v2 :: v3 :: v4 :: v5 :: v6 :: v7 :: .int y :: w :: r) (.ref x :: st) G M = z_ex m ops (v0 :: v1 :: v2 :: v3 :: v4 :: v5 :: v6 :: v7 :: .int y :: .ref x :: r) st G M := by rw [z_ex_cons]; rfl
theorem xo_13_9r (v0 v1 v2 v3 v4 v5 v6 v7 : Value) (y : Nat) (w : Value) (x : Nat) (r : List Value) : z_ex m ((13, 9, b, c, pc) :: ops) (v0 :: v1 :: v2 :: v3 :: v4 :: v5 :: v6 :: v7 :: .ref y :: w :: r) (.ref x :: st) G M = z_ex m ops (v0 :: v1 :: v2 :: v3 :: v4 :: v5 :: v6 :: v7 :: .ref y :: .ref x :: r) st G M := by rw [z_ex_cons]; rfl
theorem xo_13_9n (v0 v1 v2 v3 v4 v5 v6 v7 : Value)  (w : Value) (x : Nat) (r : List Value) : z_ex m ((13, 9, b, c, pc) :: ops) (v0 :: v1 :: v2 :: v3 :: v4 :: v5 :: v6 :: v7 :: .null :: w :: r) (.ref x :: st) G M = z_ex m ops (v0 :: v1 :: v2 :: v3 :: v4 :: v5 :: v6 :: v7 :: .null :: .ref x :: r) st G M := by rw [z_ex_cons]; rfl
theorem xo_13_10i (v0 v1 v2 v3 v4 v5 v6 v7 v8 : Value) (y : Int32) (w : Value) (x : Nat) (r : List Value) : z_ex m ((13, 10, b, c, pc) :: ops) (v0 :: v1 :: v2 :: v3 :: v4 :: v5 :: v6 :: v7 :: v8 :: .int y :: w :: r) (.ref x :: st) G M = z_ex m ops (v0 :: v1 :: v2 :: v3 :: v4 :: v5 :: v6 :: v7 :: v8 :: .int y :: .ref x :: r) st G M := by rw [z_ex_cons]; rfl
theorem xo_13_10r (v0 v1 v2 v3 v4 v5 v6 v7 v8 : Value) (y : Nat) (w : Value) (x : Nat) (r : List Value) : z_ex m ((13, 10, b, c, pc) :: ops) (v0 :: v1 :: v2 :: v3 :: v4 :: v5 :: v6 :: v7 :: v8 :: .ref y :: w :: r) (.ref x :: st) G M = z_ex m ops (v0 :: v1 :: v2 :: v3 :: v4 :: v5 :: v6 :: v7 :: v8 :: .ref y :: .ref x :: r) st G M := by rw [z_ex_cons]; rfl
theorem xo_13_10n (v0 v1 v2 v3 v4 v5 v6 v7 v8 : Value)  (w : Value) (x : Nat) (r : List Value) : z_ex m ((13, 10, b, c, pc) :: ops) (v0 :: v1 :: v2 :: v3 :: v4 :: v5 :: v6 :: v7 :: v8 :: .null :: w :: r) (.ref x :: st) G M = z_ex m ops (v0 :: v1 :: v2 :: v3 :: v4 :: v5 :: v6 :: v7 :: v8 :: .null :: .ref x :: r) st G M := by rw [z_ex_cons]; rfl
theorem xo_13_11i (v0 v1 v2 v3 v4 v5 v6 v7 v8 v9 : Value) (y : Int32) (w : Value) (x : Nat) (r : List Value) : z_ex m ((13, 11, b, c, pc) :: ops) (v0 :: v1 :: v2 :: v3 :: v4 :: v5 :: v6 :: v7 :: v8 :: v9 :: .int y :: w :: r) (.ref x :: st) G M = z_ex m ops (v0 :: v1 :: v2 :: v3 :: v4 :: v5 :: v6 :: v7 :: v8 :: v9 :: .int y :: .ref x :: r) st G M := by rw [z_ex_cons]; rfl
theorem xo_13_11r (v0 v1 v2 v3 v4 v5 v6 v7 v8 v9 : Value) (y : Nat) (w : Value) (x : Nat) (r : List Value) : z_ex m ((13, 11, b, c, pc) :: ops) (v0 :: v1 :: v2 :: v3 :: v4 :: v5 :: v6 :: v7 :: v8 :: v9 :: .ref y :: w :: r) (.ref x :: st) G M = z_ex m ops (v0 :: v1 :: v2 :: v3 :: v4 :: v5 :: v6 :: v7 :: v8 :: v9 :: .ref y :: .ref x :: r) st G M := by rw [z_ex_cons]; rfl
theorem xo_13_11n (v0 v1 v2 v3 v4 v5 v6 v7 v8 v9 : Value)  (w : Value) (x : Nat) (r : List Value) : z_ex m ((13, 11, b, c, pc) :: ops) (v0 :: v1 :: v2 :: v3 :: v4 :: v5 :: v6 :: v7 :: v8 :: v9 :: .null :: w :: r) (.ref x :: st) G M = z_ex m ops (v0 :: v1 :: v2 :: v3 :: v4 :: v5 :: v6 :: v7 :: v8 :: v9 :: .null :: .ref x :: r) st G M := by rw [z_ex_cons]; rfl
theorem xo_14_1r (y : Nat) (w w2 : Value) (x : Int64) (r : List Value) : z_ex m ((14, 1, b, c, pc) :: ops) (.ref y :: w :: w2 :: r) (.long x :: st) G M = z_ex m ops (.ref y :: .long x :: .null :: r) st G M := by rw [z_ex_cons]; rfl
theorem xo_15_0   (x : Int32) (r : List Value) : z_ex m ((15, 0, b, c, pc) :: ops) (.int x :: r) st G M = z_ex m ops (.int (x + nI b) :: r) st G M := by rw [z_ex_cons]; rfl
theorem xo_15_1i  (y : Int32) (x : Int32) (r : List Value) : z_ex m ((15, 1, b, c, pc) :: ops) (.int y :: .int x :: r) st G M = z_ex m ops (.int y :: .int (x + nI b) :: r) st G M := by rw [z_ex_cons]; rfl
theorem xo_15_1r  (y : Nat) (x : Int32) (r : List Value) : z_ex m ((15, 1, b, c, pc) :: ops) (.ref y :: .int x :: r) st G M = z_ex m ops (.ref y :: .int (x + nI b) :: r) st G M := by rw [z_ex_cons]; rfl
theorem xo_15_1n   (x : Int32) (r : List Value) : z_ex m ((15, 1, b, c, pc) :: ops) (.null :: .int x :: r) st G M = z_ex m ops (.null :: .int (x + nI b) :: r) st G M := by rw [z_ex_cons]; rfl
theorem xo_15_2i (v0 : Value) (y : Int32) (x : Int32) (r : List Value) : z_ex m ((15, 2, b, c, pc) :: ops) (v0 :: .int y :: .int x :: r) st G M = z_ex m ops (v0 :: .int y :: .int (x + nI b) :: r) st G M := by rw [z_ex_cons]; rfl
theorem xo_15_2r (v0 : Value) (y : Nat) (x : Int32) (r : List Value) : z_ex m ((15, 2, b, c, pc) :: ops) (v0 :: .ref y :: .int x :: r) st G M = z_ex m ops (v0 :: .ref y :: .int (x + nI b) :: r) st G M := by rw [z_ex_cons]; rfl
theorem xo_15_2n (v0 : Value)  (x : Int32) (r : List Value) : z_ex m ((15, 2, b, c, pc) :: ops) (v0 :: .null :: .int x :: r) st G M = z_ex m ops (v0 :: .null :: .int (x + nI b) :: r) st G M := by rw [z_ex_cons]; rfl
theorem xo_15_3i (v0 v1 : Value) (y : Int32) (x : Int32) (r : List Value) : z_ex m ((15, 3, b, c, pc) :: ops) (v0 :: v1 :: .int y :: .int x :: r) st G M = z_ex m ops (v0 :: v1 :: .int y :: .int (x + nI b) :: r) st G M := by rw [z_ex_cons]; rfl
theorem xo_15_3r (v0 v1 : Value) (y : Nat) (x : Int32) (r : List Value) : z_ex m ((15, 3, b, c, pc) :: ops) (v0 :: v1 :: .ref y :: .int x :: r) st G M = z_ex m ops (v0 :: v1 :: .ref y :: .int (x + nI b) :: r) st G M := by rw [z_ex_cons]; rfl
theorem xo_15_3n (v0 v1 : Value)  (x : Int32) (r : List Value) : z_ex m ((15, 3, b, c, pc) :: ops) (v0 :: v1 :: .null :: .int x :: r) st G M = z_ex m ops (v0 :: v1 :: .null :: .int (x + nI b) :: r) st G M := by rw [z_ex_cons]; rfl
theorem xo_15_4i (v0 v1 v2 : Value) (y : Int32) (x : Int32) (r : List Value) : z_ex m ((15, 4, b, c, pc) :: ops) (v0 :: v1 :: v2 :: .int y :: .int x :: r) st G M = z_ex m ops (v0 :: v1 :: v2 :: .int y :: .int (x + nI b) :: r) st G M := by rw [z_ex_cons]; rfl
theorem xo_15_4r (v0 v1 v2 : Value) (y : Nat) (x : Int32) (r : List Value) : z_ex m ((15, 4, b, c, pc) :: ops) (v0 :: v1 :: v2 :: .ref y :: .int x :: r) st G M = z_ex m ops (v0 :: v1 :: v2 :: .ref y :: .int (x + nI b) :: r) st G M := by rw [z_ex_cons]; rfl
theorem xo_15_4n (v0 v1 v2 : Value)  (x : Int32) (r : List Value) : z_ex m ((15, 4, b, c, pc) :: ops) (v0 :: v1 :: v2 :: .null :: .int x :: r) st G M = z_ex m ops (v0 :: v1 :: v2 :: .null :: .int (x + nI b) :: r) st G M := by rw [z_ex_cons]; rfl
theorem xo_15_5i (v0 v1 v2 v3 : Value) (y : Int32) (x : Int32) (r : List Value) : z_ex m ((15, 5, b, c, pc) :: ops) (v0 :: v1 :: v2 :: v3 :: .int y :: .int x :: r) st G M = z_ex m ops (v0 :: v1 :: v2 :: v3 :: .int y :: .int (x + nI b) :: r) st G M := by rw [z_ex_cons]; rfl
theorem xo_15_5r (v0 v1 v2 v3 : Value) (y : Nat) (x : Int32) (r : List Value) : z_ex m ((15, 5, b, c, pc) :: ops) (v0 :: v1 :: v2 :: v3 :: .ref y :: .int x :: r) st G M = z_ex m ops (v0 :: v1 :: v2 :: v3 :: .ref y :: .int (x + nI b) :: r) st G M := by rw [z_ex_cons]; rfl
theorem xo_15_5n (v0 v1 v2 v3 : Value)  (x : Int32) (r : List Value) : z_ex m ((15, 5, b, c, pc) :: ops) (v0 :: v1 :: v2 :: v3 :: .null :: .int x :: r) st G M = z_ex m ops (v0 :: v1 :: v2 :: v3 :: .null :: .int (x + nI b) :: r) st G M := by rw [z_ex_cons]; rfl
theorem xo_15_6i (v0 v1 v2 v3 v4 : Value) (y : Int32) (x : Int32) (r : List Value) : z_ex m ((15, 6, b, c, pc) :: ops) (v0 :: v1 :: v2 :: v3 :: v4 :: .int y :: .int x :: r) st G M = z_ex m ops (v0 :: v1 :: v2 :: v3 :: v4 :: .int y :: .int (x + nI b) :: r) st G M := by rw [z_ex_cons]; rfl
theorem xo_15_6r (v0 v1 v2 v3 v4 : Value) (y : Nat) (x : Int32) (r : List Value) : z_ex m ((15, 6, b, c, pc) :: ops) (v0 :: v1 :: v2 :: v3 :: v4 :: .ref y :: .int x :: r) st G M = z_ex m ops (v0 :: v1 :: v2 :: v3 :: v4 :: .ref y :: .int (x + nI b) :: r) st G M := by rw [z_ex_cons]; rfl
theorem xo_15_6n (v0 v1 v2 v3 v4 : Value)  (x : Int32) (r : List Value) : z_ex m ((15, 6, b, c, pc) :: ops) (v0 :: v1 :: v2 :: v3 :: v4 :: .null :: .int x :: r) st G M = z_ex m ops (v0 :: v1 :: v2 :: v3 :: v4 :: .null :: .int (x + nI b) :: r) st G M := by rw [z_ex_cons]; rfl
theorem xo_15_7i (v0 v1 v2 v3 v4 v5 : Value) (y : Int32) (x : Int32) (r : List Value) : z_ex m ((15, 7, b, c, pc) :: ops) (v0 :: v1 :: v2 :: v3 :: v4 :: v5 :: .int y :: .int x :: r) st G M = z_ex m ops (v0 :: v1 :: v2 :: v3 :: v4 :: v5 :: .int y :: .int (x + nI b) :: r) st G M := by rw [z_ex_cons]; rfl
theorem xo_15_7r (v0 v1 v2 v3 v4 v5 : Value) (y : Nat) (x : Int32) (r : List Value) : z_ex m ((15, 7, b, c, pc) :: ops) (v0 :: v1 :: v2 :: v3 :: v4 :: v5 :: .ref y :: .int x :: r) st G M = z_ex m ops (v0 :: v1 :: v2 :: v3 :: v4 :: v5 :: .ref y :: .int (x + nI b) :: r) st G M := by rw [z_ex_cons]; rfl
theorem xo_15_7n (v0 v1 v2 v3 v4 v5 : Value)  (x : Int32) (r : List Value) : z_ex m ((15, 7, b, c, pc) :: ops) (v0 :: v1 :: v2 :: v3 :: v4 :: v5 :: .null :: .int x :: r) st G M = z_ex m ops (v0 :: v1 :: v2 :: v3 :: v4 :: v5 :: .null :: .int (x + nI b) :: r) st G M := by rw [z_ex_cons]; rfl
theorem xo_15_8i (v0 v1 v2 v3 v4 v5 v6 : Value) (y : Int32) (x : Int32) (r : List Value) : z_ex m ((15, 8, b, c, pc) :: ops) (v0 :: v1 :: v2 :: v3 :: v4 :: v5 :: v6 :: .int y :: .int x :: r) st G M = z_ex m ops (v0 :: v1 :: v2 :: v3 :: v4 :: v5 :: v6 :: .int y :: .int (x + nI b) :: r) st G M := by rw [z_ex_cons]; rfl
theorem xo_15_8r (v0 v1 v2 v3 v4 v5 v6 : Value) (y : Nat) (x : Int32) (r : List Value) : z_ex m ((15, 8, b, c, pc) :: ops) (v0 :: v1 :: v2 :: v3 :: v4 :: v5 :: v6 :: .ref y :: .int x :: r) st G M = z_ex m ops (v0 :: v1 :: v2 :: v3 :: v4 :: v5 :: v6 :: .ref y :: .int (x + nI b) :: r) st G M := by rw [z_ex_cons]; rfl
theorem xo_15_8n (v0 v1 v2 v3 v4 v5 v6 : Value)  (x : Int32) (r : List Value) : z_ex m ((15, 8, b, c, pc) :: ops) (v0 :: v1 :: v2 :: v3 :: v4 :: v5 :: v6 :: .null :: .int x :: r) st G M = z_ex m ops (v0 :: v1 :: v2 :: v3 :: v4 :: v5 :: v6 :: .null :: .int (x + nI b) :: r) st G M := by rw [z_ex_cons]; rfl
theorem xo_15_9i (v0 v1 v2 v3 v4 v5 v6 v7 : Value) (y : Int32) (x : Int32) (r : List Value) : z_ex m ((15, 9, b, c, pc) :: ops) (v0 :: v1 :: v2 :: v3 :: v4 :: v5 :: v6 :: v7 :: .int y :: .int x :: r) st G M = z_ex m ops (v0 :: v1 :: v2 :: v3 :: v4 :: v5 :: v6 :: v7 :: .int y :: .int (x + nI b) :: r) st G M := by rw [z_ex_cons]; rfl
theorem xo_15_9r (v0 v1 v2 v3 v4 v5 v6 v7 : Value) (y : Nat) (x : Int32) (r : List Value) : z_ex m ((15, 9, b, c, pc) :: ops) (v0 :: v1 :: v2 :: v3 :: v4 :: v5 :: v6 :: v7 :: .ref y :: .int x :: r) st G M = z_ex m ops (v0 :: v1 :: v2 :: v3 :: v4 :: v5 :: v6 :: v7 :: .ref y :: .int (x + nI b) :: r) st G M := by rw [z_ex_cons]; rfl
theorem xo_15_9n (v0 v1 v2 v3 v4 v5 v6 v7 : Value)  (x : Int32) (r : List Value) : z_ex m ((15, 9, b, c, pc) :: ops) (v0 :: v1 :: v2 :: v3 :: v4 :: v5 :: v6 :: v7 :: .null :: .int x :: r) st G M = z_ex m ops (v0 :: v1 :: v2 :: v3 :: v4 :: v5 :: v6 :: v7 :: .null :: .int (x + nI b) :: r) st G M := by rw [z_ex_cons]; rfl
theorem xo_15_10i (v0 v1 v2 v3 v4 v5 v6 v7 v8 : Value) (y : Int32) (x : Int32) (r : List Value) : z_ex m ((15, 10, b, c, pc) :: ops) (v0 :: v1 :: v2 :: v3 :: v4 :: v5 :: v6 :: v7 :: v8 :: .int y :: .int x :: r) st G M = z_ex m ops (v0 :: v1 :: v2 :: v3 :: v4 :: v5 :: v6 :: v7 :: v8 :: .int y :: .int (x + nI b) :: r) st G M := by rw [z_ex_cons]; rfl
theorem xo_15_10r (v0 v1 v2 v3 v4 v5 v6 v7 v8 : Value) (y : Nat) (x : Int32) (r : List Value) : z_ex m ((15, 10, b, c, pc) :: ops) (v0 :: v1 :: v2 :: v3 :: v4 :: v5 :: v6 :: v7 :: v8 :: .ref y :: .int x :: r) st G M = z_ex m ops (v0 :: v1 :: v2 :: v3 :: v4 :: v5 :: v6 :: v7 :: v8 :: .ref y :: .int (x + nI b) :: r) st G M := by rw [z_ex_cons]; rfl
theorem xo_15_10n (v0 v1 v2 v3 v4 v5 v6 v7 v8 : Value)  (x : Int32) (r : List Value) : z_ex m ((15, 10, b, c, pc) :: ops) (v0 :: v1 :: v2 :: v3 :: v4 :: v5 :: v6 :: v7 :: v8 :: .null :: .int x :: r) st G M = z_ex m ops (v0 :: v1 :: v2 :: v3 :: v4 :: v5 :: v6 :: v7 :: v8 :: .null :: .int (x + nI b) :: r) st G M := by rw [z_ex_cons]; rfl
theorem xo_15_11i (v0 v1 v2 v3 v4 v5 v6 v7 v8 v9 : Value) (y : Int32) (x : Int32) (r : List Value) : z_ex m ((15, 11, b, c, pc) :: ops) (v0 :: v1 :: v2 :: v3 :: v4 :: v5 :: v6 :: v7 :: v8 :: v9 :: .int y :: .int x :: r) st G M = z_ex m ops (v0 :: v1 :: v2 :: v3 :: v4 :: v5 :: v6 :: v7 :: v8 :: v9 :: .int y :: .int (x + nI b) :: r) st G M := by rw [z_ex_cons]; rfl
theorem xo_15_11r (v0 v1 v2 v3 v4 v5 v6 v7 v8 v9 : Value) (y : Nat) (x : Int32) (r : List Value) : z_ex m ((15, 11, b, c, pc) :: ops) (v0 :: v1 :: v2 :: v3 :: v4 :: v5 :: v6 :: v7 :: v8 :: v9 :: .ref y :: .int x :: r) st G M = z_ex m ops (v0 :: v1 :: v2 :: v3 :: v4 :: v5 :: v6 :: v7 :: v8 :: v9 :: .ref y :: .int (x + nI b) :: r) st G M := by rw [z_ex_cons]; rfl
theorem xo_15_11n (v0 v1 v2 v3 v4 v5 v6 v7 v8 v9 : Value)  (x : Int32) (r : List Value) : z_ex m ((15, 11, b, c, pc) :: ops) (v0 :: v1 :: v2 :: v3 :: v4 :: v5 :: v6 :: v7 :: v8 :: v9 :: .null :: .int x :: r) st G M = z_ex m ops (v0 :: v1 :: v2 :: v3 :: v4 :: v5 :: v6 :: v7 :: v8 :: v9 :: .null :: .int (x + nI b) :: r) st G M := by rw [z_ex_cons]; rfl
theorem xo_16 (p : Nat) (hk : z_kd G p = (0, a)) (hp : 32 ≤ p) : z_ex m ((16, a, b, c, pc) :: ops) ls (.ref p :: st) G M = z_ex m ops ls (.int (M p b) :: st) G M := by rw [z_ex_cons]; simp [z_step, hk, hp]
theorem xo_17 (p : Nat) (hk : z_kd G p = (0, a)) (hp : 32 ≤ p) (h0 : z_rf G p b ≠ 0) : z_ex m ((17, a, b, c, pc) :: ops) ls (.ref p :: st) G M = z_ex m ops ls (.ref (z_rf G p b) :: st) G M := by rw [z_ex_cons]; simp [z_step, hk, hp, h0]
theorem xo_18 (x : Int32) (p : Nat) (hk : z_kd G p = (0, a)) (hp : 32 ≤ p) : z_ex m ((18, a, b, c, pc) :: ops) ls (.int x :: .ref p :: st) G M = z_ex m ops ls st G (z_sA M p (z_u (M p) b x)) := by rw [z_ex_cons]; simp [z_step, hk, hp]
theorem xo_19 (q p : Nat) (hk : z_kd G p = (0, a)) (hp : 32 ≤ p) (h0 : q ≠ 0) : z_ex m ((19, a, b, c, pc) :: ops) ls (.ref q :: .ref p :: st) G M = z_ex m ops ls st (z_setR G p b q) M := by rw [z_ex_cons]; simp [z_step, hk, hp, h0]
theorem xo_20 (x y : Int32) : z_ex m ((20, a, b, c, pc) :: ops) ls (.int y :: .int x :: st) G M = z_ex m ops ls (.int (x + y) :: st) G M := by rw [z_ex_cons]; rfl
theorem xo_21 (x y : Int32) : z_ex m ((21, a, b, c, pc) :: ops) ls (.int y :: .int x :: st) G M = z_ex m ops ls (.int (x - y) :: st) G M := by rw [z_ex_cons]; rfl
theorem xo_22 (x y : Int32) : z_ex m ((22, a, b, c, pc) :: ops) ls (.int y :: .int x :: st) G M = z_ex m ops ls (.int (x * y) :: st) G M := by rw [z_ex_cons]; rfl
theorem xo_23 (x y : Int32) : z_ex m ((23, a, b, c, pc) :: ops) ls (.int y :: .int x :: st) G M = z_ex m ops ls (.int (x &&& y) :: st) G M := by rw [z_ex_cons]; rfl
theorem xo_24 (x y : Int32) : z_ex m ((24, a, b, c, pc) :: ops) ls (.int y :: .int x :: st) G M = z_ex m ops ls (.int (x ||| y) :: st) G M := by rw [z_ex_cons]; rfl
theorem xo_25 (x y : Int32) : z_ex m ((25, a, b, c, pc) :: ops) ls (.int y :: .int x :: st) G M = z_ex m ops ls (.int (x ^^^ y) :: st) G M := by rw [z_ex_cons]; rfl
theorem xo_26 (x y : Int32) : z_ex m ((26, a, b, c, pc) :: ops) ls (.int y :: .int x :: st) G M = z_ex m ops ls (.int (x <<< (y &&& 31)) :: st) G M := by rw [z_ex_cons]; rfl
theorem xo_27 (x y : Int32) : z_ex m ((27, a, b, c, pc) :: ops) ls (.int y :: .int x :: st) G M = z_ex m ops ls (.int (x >>> (y &&& 31)) :: st) G M := by rw [z_ex_cons]; rfl
theorem xo_28 (x y : Int32) : z_ex m ((28, a, b, c, pc) :: ops) ls (.int y :: .int x :: st) G M = z_ex m ops ls (.int (z_ushr x y) :: st) G M := by rw [z_ex_cons]; rfl
theorem xo_29 (x y : Int32) (h : y ≠ 0) : z_ex m ((29, a, b, c, pc) :: ops) ls (.int y :: .int x :: st) G M = z_ex m ops ls (.int (x / y) :: st) G M := by rw [z_ex_cons]; simp [z_step, h]
theorem xo_30 (x y : Int32) (h : y ≠ 0) : z_ex m ((30, a, b, c, pc) :: ops) ls (.int y :: .int x :: st) G M = z_ex m ops ls (.int (x - x / y * y) :: st) G M := by rw [z_ex_cons]; simp [z_step, h]
theorem xo_31 (x : Int32) : z_ex m ((31, a, b, c, pc) :: ops) ls (.int x :: st) G M = z_ex m ops ls (.int (-x) :: st) G M := by rw [z_ex_cons]; rfl
theorem zq_in {j n : Nat} (hj : j < n) (hn : n < 2 ^ 31) : ¬ nI j < 0 ∧ (nI j).toNatClampNeg = j := ⟨nI_pos (by omega), nI_clamp (by omega)⟩
theorem xo_32 (j p : Nat) (hk : (z_kd G p).1 = 1) (hj : j < (z_kd G p).2) (hn : j < 2 ^ 31) : z_ex m ((32, a, b, c, pc) :: ops) ls (.int (nI j) :: .ref p :: st) G M = z_ex m ops ls (.int (M p j) :: st) G M := by rw [z_ex_cons]; simp [z_step, hk, hj, nI_pos hn, nI_clamp hn]
theorem xo_33 (x : Int32) (j p : Nat) (hk : (z_kd G p).1 = 1) (hp : 32 ≤ p) (hj : j < (z_kd G p).2) (hn : j < 2 ^ 31) : z_ex m ((33, a, b, c, pc) :: ops) ls (.int x :: .int (nI j) :: .ref p :: st) G M = z_ex m ops ls st G (z_sA M p (z_u (M p) j x)) := by rw [z_ex_cons]; simp [z_step, hk, hp, hj, nI_pos hn, nI_clamp hn]
theorem xo_34 (j p : Nat) (h3 : 3 ≤ (z_kd G p).1) (h5 : (z_kd G p).1 ≤ 5) (hp : 32 ≤ p) (hj : j < (z_kd G p).2) (hn : j < 2 ^ 31) (h0 : z_rf G p j ≠ 0) : z_ex m ((34, a, b, c, pc) :: ops) ls (.int (nI j) :: .ref p :: st) G M = z_ex m ops ls (.ref (z_rf G p j) :: st) G M := by rw [z_ex_cons]; simp [z_step, h3, h5, hp, hj, nI_pos hn, nI_clamp hn, h0]
theorem xo_35m (q j p : Nat) (hk : (z_kd G p).1 = 3) (hq : z_kd G q = (0, 2)) (hp : 32 ≤ p) (hq2 : 32 ≤ q) (hj : j < (z_kd G p).2) (hn : j < 2 ^ 31) : z_ex m ((35, a, b, c, pc) :: ops) ls (.ref q :: .int (nI j) :: .ref p :: st) G M = z_ex m ops ls st (z_setR G p j q) M := by rw [z_ex_cons]; simp [z_step, hk, hq, hp, hq2, hj, nI_pos hn, nI_clamp hn]
theorem xo_35w (q j p : Nat) (hk : (z_kd G p).1 = 4) (hq : z_kd G q = (0, 5)) (hp : 32 ≤ p) (hq2 : 32 ≤ q) (hj : j < (z_kd G p).2) (hn : j < 2 ^ 31) : z_ex m ((35, a, b, c, pc) :: ops) ls (.ref q :: .int (nI j) :: .ref p :: st) G M = z_ex m ops ls st (z_setR G p j q) M := by rw [z_ex_cons]; simp [z_step, hk, hq, hp, hq2, hj, nI_pos hn, nI_clamp hn]
theorem xo_36 (p : Nat) (hk : (z_kd G p).1 = 1) : z_ex m ((36, a, b, c, pc) :: ops) ls (.ref p :: st) G M = z_ex m ops ls (.int (nI (z_kd G p).2) :: st) G M := by rw [z_ex_cons]; simp [z_step, hk]; rfl
theorem xo_37 (j p : Nat) (hk : (z_kd G p).1 = 2) (hp : 32 ≤ p) (hj : j < (z_kd G p).2) (hn : j < 2 ^ 31) : z_ex m ((37, a, b, c, pc) :: ops) ls (.int (nI j) :: .ref p :: st) G M = z_ex m ops ls (.long (z_lg G p j) :: st) G M := by rw [z_ex_cons]; simp [z_step, hk, hp, hj, nI_pos hn, nI_clamp hn]
theorem xo_38 (x : Int64) (j p : Nat) (hk : (z_kd G p).1 = 2) (hp : 32 ≤ p) (hj : j < (z_kd G p).2) (hn : j < 2 ^ 31) : z_ex m ((38, a, b, c, pc) :: ops) ls (.long x :: .int (nI j) :: .ref p :: st) G M = z_ex m ops ls st (z_setL G p j x) M := by rw [z_ex_cons]; simp [z_step, hk, hp, hj, nI_pos hn, nI_clamp hn]
theorem xo_39i (x : Int32) : z_ex m ((39, a, b, c, pc) :: ops) ls (.int x :: st) G M = z_ex m ops ls (.int x :: .int x :: st) G M := by rw [z_ex_cons]; rfl
theorem xo_39r (x : Nat) : z_ex m ((39, a, b, c, pc) :: ops) ls (.ref x :: st) G M = z_ex m ops ls (.ref x :: .ref x :: st) G M := by rw [z_ex_cons]; rfl
theorem xo_40 (x : Int32) (y : Nat) : z_ex m ((40, a, b, c, pc) :: ops) ls (.int x :: .ref y :: st) G M = z_ex m ops ls (.int x :: .ref y :: .int x :: .ref y :: st) G M := by rw [z_ex_cons]; rfl
theorem xo_41 (x : Int32) : z_ex m ((41, a, b, c, pc) :: ops) ls (.int x :: st) G M = z_ex m ops ls st G M := by rw [z_ex_cons]; rfl
theorem xo_42 (x y : Int32) : z_ex m ((42, a, b, c, pc) :: ops) ls (.int y :: .int x :: st) G M = if x = y then z_ex m (z_blk m a) ls st G M else z_ex m (z_blk m b) ls st G M := by rw [z_ex_cons]; by_cases h : x = y <;> simp only [z_step, h, if_true, if_false]
theorem xo_43 (x y : Int32) : z_ex m ((43, a, b, c, pc) :: ops) ls (.int y :: .int x :: st) G M = if x = y then z_ex m (z_blk m b) ls st G M else z_ex m (z_blk m a) ls st G M := by rw [z_ex_cons]; by_cases h : x = y <;> simp only [z_step, h, if_true, if_false]
theorem xo_44 (x y : Int32) : z_ex m ((44, a, b, c, pc) :: ops) ls (.int y :: .int x :: st) G M = if x < y then z_ex m (z_blk m a) ls st G M else z_ex m (z_blk m b) ls st G M := by rw [z_ex_cons]; by_cases h : x < y <;> simp only [z_step, h, if_true, if_false]
theorem xo_45 (x y : Int32) : z_ex m ((45, a, b, c, pc) :: ops) ls (.int y :: .int x :: st) G M = if x < y then z_ex m (z_blk m b) ls st G M else z_ex m (z_blk m a) ls st G M := by rw [z_ex_cons]; by_cases h : x < y <;> simp only [z_step, h, if_true, if_false]
theorem xo_46 (x y : Int32) : z_ex m ((46, a, b, c, pc) :: ops) ls (.int y :: .int x :: st) G M = if y < x then z_ex m (z_blk m a) ls st G M else z_ex m (z_blk m b) ls st G M := by rw [z_ex_cons]; by_cases h : y < x <;> simp only [z_step, h, if_true, if_false]
theorem xo_47 (x y : Int32) : z_ex m ((47, a, b, c, pc) :: ops) ls (.int y :: .int x :: st) G M = if y < x then z_ex m (z_blk m b) ls st G M else z_ex m (z_blk m a) ls st G M := by rw [z_ex_cons]; by_cases h : y < x <;> simp only [z_step, h, if_true, if_false]
theorem xo_48 (x : Int32) : z_ex m ((48, a, b, c, pc) :: ops) ls (.int x :: st) G M = if x = 0 then z_ex m (z_blk m a) ls st G M else z_ex m (z_blk m b) ls st G M := by rw [z_ex_cons]; by_cases h : x = 0 <;> simp only [z_step, h, if_true, if_false]
theorem xo_49 (x : Int32) : z_ex m ((49, a, b, c, pc) :: ops) ls (.int x :: st) G M = if x = 0 then z_ex m (z_blk m b) ls st G M else z_ex m (z_blk m a) ls st G M := by rw [z_ex_cons]; by_cases h : x = 0 <;> simp only [z_step, h, if_true, if_false]
theorem xo_50 (x : Int32) : z_ex m ((50, a, b, c, pc) :: ops) ls (.int x :: st) G M = if x < 0 then z_ex m (z_blk m a) ls st G M else z_ex m (z_blk m b) ls st G M := by rw [z_ex_cons]; by_cases h : x < 0 <;> simp only [z_step, h, if_true, if_false]
theorem xo_51 (x : Int32) : z_ex m ((51, a, b, c, pc) :: ops) ls (.int x :: st) G M = if x < 0 then z_ex m (z_blk m b) ls st G M else z_ex m (z_blk m a) ls st G M := by rw [z_ex_cons]; by_cases h : x < 0 <;> simp only [z_step, h, if_true, if_false]
theorem xo_52 (x : Int32) : z_ex m ((52, a, b, c, pc) :: ops) ls (.int x :: st) G M = if 0 < x then z_ex m (z_blk m a) ls st G M else z_ex m (z_blk m b) ls st G M := by rw [z_ex_cons]; by_cases h : 0 < x <;> simp only [z_step, h, if_true, if_false]
theorem xo_53 (x : Int32) : z_ex m ((53, a, b, c, pc) :: ops) ls (.int x :: st) G M = if 0 < x then z_ex m (z_blk m b) ls st G M else z_ex m (z_blk m a) ls st G M := by rw [z_ex_cons]; by_cases h : 0 < x <;> simp only [z_step, h, if_true, if_false]
theorem xo_54 : z_ex m ((54, a, b, c, pc) :: ops) ls st G M = z_ex m (z_blk m a) ls st G M := by rw [z_ex_cons]; rfl
theorem xo_55 : z_ex m ((55, a, b, c, pc) :: ops) ls st G M = z_ex m (z_blk m a) ls st G M := by rw [z_ex_cons]; rfl
theorem xo_56 (x : Int32) : z_ex m ((56, a, b, c, pc) :: ops) ls (.int x :: st) G M = z_ex m (z_blk m (z_swt a x)) ls st G M := by rw [z_ex_cons]; rfl
theorem xo_57 (x : Int32) : z_ex m ((57, a, b, c, pc) :: ops) ls (.int x :: st) G M = z_ex m ops ls (.long x.toInt64 :: st) G M := by rw [z_ex_cons]; rfl
theorem xo_58 (x y : Int64) : z_ex m ((58, a, b, c, pc) :: ops) ls (.long y :: .long x :: st) G M = z_ex m ops ls (.long (x + y) :: st) G M := by rw [z_ex_cons]; rfl
theorem xo_59 (x y : Int64) : z_ex m ((59, a, b, c, pc) :: ops) ls (.long y :: .long x :: st) G M = z_ex m ops ls (.long (x * y) :: st) G M := by rw [z_ex_cons]; rfl
theorem xo_60 (x y : Int64) : z_ex m ((60, a, b, c, pc) :: ops) ls (.long y :: .long x :: st) G M = z_ex m ops ls (.int (z_cmpl x y) :: st) G M := by rw [z_ex_cons]; rfl
theorem xo_61 : z_ex m ((61, a, b, c, pc) :: ops) ls st G M = z_ex m ops ls (.long (Int64.ofNat a) :: st) G M := by rw [z_ex_cons]; rfl
theorem xo_62 : z_ex m ((62, a, b, c, pc) :: ops) ls st G M = z_ex m ops ls (.long (Int64.ofNat a) :: st) G M := by rw [z_ex_cons]; rfl
theorem xo_63_0  (hc : z_cat st ≤ 8) : z_ex m ((63, a, 0, c, pc) :: ops) ls (st) G M = z_k 63 m ops ls st (z_call a [] G M) := by rw [z_ex_cons]; simp [z_step, z_cg, z_take, z_rcB, hc]
theorem xo_63_1 (w0 : Value) (hc : z_cat st ≤ 8) : z_ex m ((63, a, 1, c, pc) :: ops) ls (w0 :: st) G M = z_k 63 m ops ls st (z_call a [w0] G M) := by rw [z_ex_cons]; simp [z_step, z_cg, z_take, z_rcB, hc]
theorem xo_63_2 (w0 w1 : Value) (hc : z_cat st ≤ 8) : z_ex m ((63, a, 2, c, pc) :: ops) ls (w1 :: w0 :: st) G M = z_k 63 m ops ls st (z_call a [w0, w1] G M) := by rw [z_ex_cons]; simp [z_step, z_cg, z_take, z_rcB, hc]
theorem xo_63_3 (w0 w1 w2 : Value) (hc : z_cat st ≤ 8) : z_ex m ((63, a, 3, c, pc) :: ops) ls (w2 :: w1 :: w0 :: st) G M = z_k 63 m ops ls st (z_call a [w0, w1, w2] G M) := by rw [z_ex_cons]; simp [z_step, z_cg, z_take, z_rcB, hc]
theorem xo_63_4 (w0 w1 w2 w3 : Value) (hc : z_cat st ≤ 8) : z_ex m ((63, a, 4, c, pc) :: ops) ls (w3 :: w2 :: w1 :: w0 :: st) G M = z_k 63 m ops ls st (z_call a [w0, w1, w2, w3] G M) := by rw [z_ex_cons]; simp [z_step, z_cg, z_take, z_rcB, hc]
theorem xo_63_5 (w0 w1 w2 w3 w4 : Value) (hc : z_cat st ≤ 8) : z_ex m ((63, a, 5, c, pc) :: ops) ls (w4 :: w3 :: w2 :: w1 :: w0 :: st) G M = z_k 63 m ops ls st (z_call a [w0, w1, w2, w3, w4] G M) := by rw [z_ex_cons]; simp [z_step, z_cg, z_take, z_rcB, hc]
theorem xo_63_6 (w0 w1 w2 w3 w4 w5 : Value) (hc : z_cat st ≤ 8) : z_ex m ((63, a, 6, c, pc) :: ops) ls (w5 :: w4 :: w3 :: w2 :: w1 :: w0 :: st) G M = z_k 63 m ops ls st (z_call a [w0, w1, w2, w3, w4, w5] G M) := by rw [z_ex_cons]; simp [z_step, z_cg, z_take, z_rcB, hc]
theorem xo_63_7 (w0 w1 w2 w3 w4 w5 w6 : Value) (hc : z_cat st ≤ 8) : z_ex m ((63, a, 7, c, pc) :: ops) ls (w6 :: w5 :: w4 :: w3 :: w2 :: w1 :: w0 :: st) G M = z_k 63 m ops ls st (z_call a [w0, w1, w2, w3, w4, w5, w6] G M) := by rw [z_ex_cons]; simp [z_step, z_cg, z_take, z_rcB, hc]
theorem xo_65_1 (w0 : Value) (hc : z_cat st ≤ 8) : z_ex m ((65, a, 1, c, pc) :: ops) ls (w0 :: st) G M = z_k 65 m ops ls st (z_call a [w0] G M) := by rw [z_ex_cons]; simp [z_step, z_cg, z_take, z_rcB, hc]
theorem xo_65_2 (w0 w1 : Value) (hc : z_cat st ≤ 8) : z_ex m ((65, a, 2, c, pc) :: ops) ls (w1 :: w0 :: st) G M = z_k 65 m ops ls st (z_call a [w0, w1] G M) := by rw [z_ex_cons]; simp [z_step, z_cg, z_take, z_rcB, hc]
theorem xo_65_3 (w0 w1 w2 : Value) (hc : z_cat st ≤ 8) : z_ex m ((65, a, 3, c, pc) :: ops) ls (w2 :: w1 :: w0 :: st) G M = z_k 65 m ops ls st (z_call a [w0, w1, w2] G M) := by rw [z_ex_cons]; simp [z_step, z_cg, z_take, z_rcB, hc]
theorem xo_65_4 (w0 w1 w2 w3 : Value) (hc : z_cat st ≤ 8) : z_ex m ((65, a, 4, c, pc) :: ops) ls (w3 :: w2 :: w1 :: w0 :: st) G M = z_k 65 m ops ls st (z_call a [w0, w1, w2, w3] G M) := by rw [z_ex_cons]; simp [z_step, z_cg, z_take, z_rcB, hc]
theorem xo_65_5 (w0 w1 w2 w3 w4 : Value) (hc : z_cat st ≤ 8) : z_ex m ((65, a, 5, c, pc) :: ops) ls (w4 :: w3 :: w2 :: w1 :: w0 :: st) G M = z_k 65 m ops ls st (z_call a [w0, w1, w2, w3, w4] G M) := by rw [z_ex_cons]; simp [z_step, z_cg, z_take, z_rcB, hc]
theorem xo_65_6 (w0 w1 w2 w3 w4 w5 : Value) (hc : z_cat st ≤ 8) : z_ex m ((65, a, 6, c, pc) :: ops) ls (w5 :: w4 :: w3 :: w2 :: w1 :: w0 :: st) G M = z_k 65 m ops ls st (z_call a [w0, w1, w2, w3, w4, w5] G M) := by rw [z_ex_cons]; simp [z_step, z_cg, z_take, z_rcB, hc]
theorem xo_65_7 (w0 w1 w2 w3 w4 w5 w6 : Value) (hc : z_cat st ≤ 8) : z_ex m ((65, a, 7, c, pc) :: ops) ls (w6 :: w5 :: w4 :: w3 :: w2 :: w1 :: w0 :: st) G M = z_k 65 m ops ls st (z_call a [w0, w1, w2, w3, w4, w5, w6] G M) := by rw [z_ex_cons]; simp [z_step, z_cg, z_take, z_rcB, hc]
theorem xo_66_1 (w0 : Value) (hc : z_cat st ≤ 8) : z_ex m ((66, a, 1, c, pc) :: ops) ls (w0 :: st) G M = z_k 66 m ops ls st (z_call a [w0] G M) := by rw [z_ex_cons]; simp [z_step, z_cg, z_take, z_rcB, hc]
theorem xo_66_2 (w0 w1 : Value) (hc : z_cat st ≤ 8) : z_ex m ((66, a, 2, c, pc) :: ops) ls (w1 :: w0 :: st) G M = z_k 66 m ops ls st (z_call a [w0, w1] G M) := by rw [z_ex_cons]; simp [z_step, z_cg, z_take, z_rcB, hc]
theorem xo_66_3 (w0 w1 w2 : Value) (hc : z_cat st ≤ 8) : z_ex m ((66, a, 3, c, pc) :: ops) ls (w2 :: w1 :: w0 :: st) G M = z_k 66 m ops ls st (z_call a [w0, w1, w2] G M) := by rw [z_ex_cons]; simp [z_step, z_cg, z_take, z_rcB, hc]
theorem xo_66_4 (w0 w1 w2 w3 : Value) (hc : z_cat st ≤ 8) : z_ex m ((66, a, 4, c, pc) :: ops) ls (w3 :: w2 :: w1 :: w0 :: st) G M = z_k 66 m ops ls st (z_call a [w0, w1, w2, w3] G M) := by rw [z_ex_cons]; simp [z_step, z_cg, z_take, z_rcB, hc]
theorem xo_66_5 (w0 w1 w2 w3 w4 : Value) (hc : z_cat st ≤ 8) : z_ex m ((66, a, 5, c, pc) :: ops) ls (w4 :: w3 :: w2 :: w1 :: w0 :: st) G M = z_k 66 m ops ls st (z_call a [w0, w1, w2, w3, w4] G M) := by rw [z_ex_cons]; simp [z_step, z_cg, z_take, z_rcB, hc]
theorem xo_66_6 (w0 w1 w2 w3 w4 w5 : Value) (hc : z_cat st ≤ 8) : z_ex m ((66, a, 6, c, pc) :: ops) ls (w5 :: w4 :: w3 :: w2 :: w1 :: w0 :: st) G M = z_k 66 m ops ls st (z_call a [w0, w1, w2, w3, w4, w5] G M) := by rw [z_ex_cons]; simp [z_step, z_cg, z_take, z_rcB, hc]
theorem xo_66_7 (w0 w1 w2 w3 w4 w5 w6 : Value) (hc : z_cat st ≤ 8) : z_ex m ((66, a, 7, c, pc) :: ops) ls (w6 :: w5 :: w4 :: w3 :: w2 :: w1 :: w0 :: st) G M = z_k 66 m ops ls st (z_call a [w0, w1, w2, w3, w4, w5, w6] G M) := by rw [z_ex_cons]; simp [z_step, z_cg, z_take, z_rcB, hc]
theorem xo_67_0  (hc : z_cat st ≤ 8) : z_ex m ((67, a, 0, c, pc) :: ops) ls (st) G M = z_k 67 m ops ls st (z_call a [] G M) := by rw [z_ex_cons]; simp [z_step, z_cg, z_take, z_rcB, hc]
theorem xo_67_1 (w0 : Value) (hc : z_cat st ≤ 8) : z_ex m ((67, a, 1, c, pc) :: ops) ls (w0 :: st) G M = z_k 67 m ops ls st (z_call a [w0] G M) := by rw [z_ex_cons]; simp [z_step, z_cg, z_take, z_rcB, hc]
theorem xo_67_2 (w0 w1 : Value) (hc : z_cat st ≤ 8) : z_ex m ((67, a, 2, c, pc) :: ops) ls (w1 :: w0 :: st) G M = z_k 67 m ops ls st (z_call a [w0, w1] G M) := by rw [z_ex_cons]; simp [z_step, z_cg, z_take, z_rcB, hc]
theorem xo_67_3 (w0 w1 w2 : Value) (hc : z_cat st ≤ 8) : z_ex m ((67, a, 3, c, pc) :: ops) ls (w2 :: w1 :: w0 :: st) G M = z_k 67 m ops ls st (z_call a [w0, w1, w2] G M) := by rw [z_ex_cons]; simp [z_step, z_cg, z_take, z_rcB, hc]
theorem xo_67_4 (w0 w1 w2 w3 : Value) (hc : z_cat st ≤ 8) : z_ex m ((67, a, 4, c, pc) :: ops) ls (w3 :: w2 :: w1 :: w0 :: st) G M = z_k 67 m ops ls st (z_call a [w0, w1, w2, w3] G M) := by rw [z_ex_cons]; simp [z_step, z_cg, z_take, z_rcB, hc]
theorem xo_67_5 (w0 w1 w2 w3 w4 : Value) (hc : z_cat st ≤ 8) : z_ex m ((67, a, 5, c, pc) :: ops) ls (w4 :: w3 :: w2 :: w1 :: w0 :: st) G M = z_k 67 m ops ls st (z_call a [w0, w1, w2, w3, w4] G M) := by rw [z_ex_cons]; simp [z_step, z_cg, z_take, z_rcB, hc]
theorem xo_67_6 (w0 w1 w2 w3 w4 w5 : Value) (hc : z_cat st ≤ 8) : z_ex m ((67, a, 6, c, pc) :: ops) ls (w5 :: w4 :: w3 :: w2 :: w1 :: w0 :: st) G M = z_k 67 m ops ls st (z_call a [w0, w1, w2, w3, w4, w5] G M) := by rw [z_ex_cons]; simp [z_step, z_cg, z_take, z_rcB, hc]
theorem xo_67_7 (w0 w1 w2 w3 w4 w5 w6 : Value) (hc : z_cat st ≤ 8) : z_ex m ((67, a, 7, c, pc) :: ops) ls (w6 :: w5 :: w4 :: w3 :: w2 :: w1 :: w0 :: st) G M = z_k 67 m ops ls st (z_call a [w0, w1, w2, w3, w4, w5, w6] G M) := by rw [z_ex_cons]; simp [z_step, z_cg, z_take, z_rcB, hc]
theorem xo_64_1 (p : Nat)  (hk : z_kd G p = (0, z_rc a)) (hp : 32 ≤ p) (hc : z_cat st ≤ 8) : z_ex m ((64, a, 1, c, pc) :: ops) ls (.ref p :: st) G M = z_k 64 m ops ls st (z_call a [.ref p] G M) := by rw [z_ex_cons]; simp [z_step, z_cg, z_take, z_rcB, hc, hk, hp]
theorem xo_64_2 (p : Nat) (w1 : Value) (hk : z_kd G p = (0, z_rc a)) (hp : 32 ≤ p) (hc : z_cat st ≤ 8) : z_ex m ((64, a, 2, c, pc) :: ops) ls (w1 :: .ref p :: st) G M = z_k 64 m ops ls st (z_call a [.ref p, w1] G M) := by rw [z_ex_cons]; simp [z_step, z_cg, z_take, z_rcB, hc, hk, hp]
theorem xo_64_3 (p : Nat) (w1 w2 : Value) (hk : z_kd G p = (0, z_rc a)) (hp : 32 ≤ p) (hc : z_cat st ≤ 8) : z_ex m ((64, a, 3, c, pc) :: ops) ls (w2 :: w1 :: .ref p :: st) G M = z_k 64 m ops ls st (z_call a [.ref p, w1, w2] G M) := by rw [z_ex_cons]; simp [z_step, z_cg, z_take, z_rcB, hc, hk, hp]
theorem xo_64_4 (p : Nat) (w1 w2 w3 : Value) (hk : z_kd G p = (0, z_rc a)) (hp : 32 ≤ p) (hc : z_cat st ≤ 8) : z_ex m ((64, a, 4, c, pc) :: ops) ls (w3 :: w2 :: w1 :: .ref p :: st) G M = z_k 64 m ops ls st (z_call a [.ref p, w1, w2, w3] G M) := by rw [z_ex_cons]; simp [z_step, z_cg, z_take, z_rcB, hc, hk, hp]
theorem xo_64_5 (p : Nat) (w1 w2 w3 w4 : Value) (hk : z_kd G p = (0, z_rc a)) (hp : 32 ≤ p) (hc : z_cat st ≤ 8) : z_ex m ((64, a, 5, c, pc) :: ops) ls (w4 :: w3 :: w2 :: w1 :: .ref p :: st) G M = z_k 64 m ops ls st (z_call a [.ref p, w1, w2, w3, w4] G M) := by rw [z_ex_cons]; simp [z_step, z_cg, z_take, z_rcB, hc, hk, hp]
theorem xo_64_6 (p : Nat) (w1 w2 w3 w4 w5 : Value) (hk : z_kd G p = (0, z_rc a)) (hp : 32 ≤ p) (hc : z_cat st ≤ 8) : z_ex m ((64, a, 6, c, pc) :: ops) ls (w5 :: w4 :: w3 :: w2 :: w1 :: .ref p :: st) G M = z_k 64 m ops ls st (z_call a [.ref p, w1, w2, w3, w4, w5] G M) := by rw [z_ex_cons]; simp [z_step, z_cg, z_take, z_rcB, hc, hk, hp]
theorem xo_64_7 (p : Nat) (w1 w2 w3 w4 w5 w6 : Value) (hk : z_kd G p = (0, z_rc a)) (hp : 32 ≤ p) (hc : z_cat st ≤ 8) : z_ex m ((64, a, 7, c, pc) :: ops) ls (w6 :: w5 :: w4 :: w3 :: w2 :: w1 :: .ref p :: st) G M = z_k 64 m ops ls st (z_call a [.ref p, w1, w2, w3, w4, w5, w6] G M) := by rw [z_ex_cons]; simp [z_step, z_cg, z_take, z_rcB, hc, hk, hp]
theorem xk_v (o : Nat) (G : zG) (M : zM) (v : Value) : z_k o m ops ls st (some (.inl (some v), G, M)) = z_ex m ops ls (v :: st) G M := rfl
theorem xk_n (o : Nat) (G : zG) (M : zM) : z_k o m ops ls st (some (.inl none, G, M)) = z_ex m ops ls st G M := rfl
theorem xk_x (E : Nat) (G : zG) (M : zM) (h : z_hd m E = none) : z_k 64 m ops ls st (some (.inr E, G, M)) = some (.inr E, G, M) := by simp [z_k, h]
theorem xk_c (o E t k : Nat) (ls2 : List Value) (G : zG) (M : zM) (h : z_hd m E = some (t, k)) (h2 : z_put ls k .null = some ls2) : z_k o m ops ls st (some (.inr E, G, M)) = z_ex m (z_blk m t) ls2 [] G M := by simp [z_k, h, h2]
theorem xo_68 (x : Nat) (hc : z_cat st ≤ 8) : z_ex m ((68, a, b, c, pc) :: ops) ls (.ref x :: st) G M = z_ex m ops ls st G M := by rw [z_ex_cons]; simp [z_step, hc]
theorem xo_69 : z_ex m ((69, a, b, c, pc) :: ops) ls [] G M = some (.inl none, G, M) := by rw [z_ex_cons]; rfl
theorem xo_70 (x : Int32) : z_ex m ((70, a, b, c, pc) :: ops) ls [.int x] G M = some (.inl (some (.int x)), G, M) := by rw [z_ex_cons]; rfl
theorem xo_71 (x : Int64) : z_ex m ((71, a, b, c, pc) :: ops) ls [.long x] G M = some (.inl (some (.long x)), G, M) := by rw [z_ex_cons]; rfl
theorem xo_72 (x : Int32) (h : x = 0 ∨ x = 1) : z_ex m ((72, a, b, c, pc) :: ops) ls [.int x] G M = some (.inl (some (.int x)), G, M) := by rw [z_ex_cons]; simp [z_step, h]
theorem xo_72a : z_ex m ((72, a, b, c, pc) :: ops) ls [.int (nI 0)] G M = some (.inl (some (.int (nI 0))), G, M) := xo_72 m a b c pc ops ls G M (nI 0) (Or.inl rfl)
theorem xo_72b : z_ex m ((72, a, b, c, pc) :: ops) ls [.int (nI 1)] G M = some (.inl (some (.int (nI 1))), G, M) := xo_72 m a b c pc ops ls G M (nI 1) (Or.inr rfl)
theorem xo_73 (h : z_np G = z_nc G + 32) : z_ex m ((73, a, b, c, pc) :: ops) ls st G M = z_ex m ops ls (.ref (z_np G) :: st) (z_new G (0, a) (z_nf a)) (z_sA M (z_np G) (fun _ => 0)) := by rw [z_ex_cons]; simp [z_step, h]
theorem xo_74 (n : Nat) (h : z_np G = z_nc G + 32) (hn : n ≤ 100000) : z_ex m ((74, a, b, c, pc) :: ops) ls (.int (nI n) :: st) G M = z_ex m ops ls (.ref (z_np G) :: st) (z_new G (1, n) n) (z_sA M (z_np G) (fun _ => 0)) := by rw [z_ex_cons]; simp [z_step, h, nI_pos (show n < 2 ^ 31 by omega), nI_clamp (show n < 2 ^ 31 by omega), hn]
theorem xo_75 (n : Nat) (h : z_np G = z_nc G + 32) (hn : n ≤ 100000) : z_ex m ((75, a, b, c, pc) :: ops) ls (.int (nI n) :: st) G M = z_ex m ops ls (.ref (z_np G) :: st) (z_new G (2, n) n) (z_sA M (z_np G) (fun _ => 0)) := by rw [z_ex_cons]; simp [z_step, h, nI_pos (show n < 2 ^ 31 by omega), nI_clamp (show n < 2 ^ 31 by omega), hn]
theorem xo_76 (n : Nat) (h : z_np G = z_nc G + 32) (hn : n ≤ 100000) : z_ex m ((76, a, b, c, pc) :: ops) ls (.int (nI n) :: st) G M = z_ex m ops ls (.ref (z_np G) :: st) (z_new G (a, n) n) (z_sA M (z_np G) (fun _ => 0)) := by rw [z_ex_cons]; simp [z_step, h, nI_pos (show n < 2 ^ 31 by omega), nI_clamp (show n < 2 ^ 31 by omega), hn]
theorem xo_77 (k n : Nat) (h : z_np G = z_nc G + 32) (hn : n ≤ 100000) (hk : k ≤ 100000) : z_ex m ((77, a, b, c, pc) :: ops) ls (.int (nI k) :: .int (nI n) :: st) G M = z_ex m ops ls (.ref (z_np G) :: st) (z_new2 G n k) (z_new2M G n M) := by rw [z_ex_cons]; simp [z_step, h, nI_pos (show n < 2 ^ 31 by omega), nI_clamp (show n < 2 ^ 31 by omega), nI_pos (show k < 2 ^ 31 by omega), nI_clamp (show k < 2 ^ 31 by omega), hn, hk]
theorem xo_78 : z_ex m ((78, a, b, c, pc) :: ops) ls st G M = z_ex m ops ls (.ref a :: st) G M := by rw [z_ex_cons]; rfl
theorem xo_79 : z_ex m ((79, a, b, c, pc) :: ops) ls st G M = z_ex m ops ls (.ref a :: st) G M := by rw [z_ex_cons]; rfl
theorem xo_84 : z_ex m ((84, a, b, c, pc) :: ops) ls st G M = z_ex m ops ls (.ref a :: st) G M := by rw [z_ex_cons]; rfl
theorem xo_85 : z_ex m ((85, a, b, c, pc) :: ops) ls st G M = z_ex m ops ls (.ref a :: st) G M := by rw [z_ex_cons]; rfl
theorem xo_80 (n dp sp q p : Nat) (h1 : (z_kd G p).1 = 1) (h2 : 32 ≤ p) (h3 : (z_kd G q).1 = 1) (h4 : 32 ≤ q) (h5 : sp + n ≤ (z_kd G p).2) (h6 : dp + n ≤ (z_kd G q).2) (h7 : sp < 2 ^ 31) (h8 : dp < 2 ^ 31) (h9 : n < 2 ^ 31) : z_ex m ((80, a, b, c, pc) :: ops) ls [.int (nI n), .int (nI dp), .ref q, .int (nI sp), .ref p] G M = z_ex m ops ls [] G (z_sA M q (va_cpy (M p) (M q) sp dp n)) := by rw [z_ex_cons]; simp [z_step, h1, h2, h3, h4, nI_pos h7, nI_clamp h7, nI_pos h8, nI_clamp h8, nI_pos h9, nI_clamp h9, h5, h6]
theorem xo_81 (p : Nat) (h6 : 6 ≤ p) (h20 : p < 20) (hc : z_cat st ≤ 8) : z_ex m ((81, a, b, c, pc) :: ops) ls (.ref p :: st) G M = z_ex m ops ls (.int (nI (z_tx p).length) :: st) G M := by rw [z_ex_cons]; simp [z_step, h6, h20, hc]; rfl
theorem xo_82 (j p : Nat) (h6 : 6 ≤ p) (h20 : p < 20) (hj : j < (z_tx p).length) (hn : j < 2 ^ 31) (hc : z_cat st ≤ 8) : z_ex m ((82, a, b, c, pc) :: ops) ls (.int (nI j) :: .ref p :: st) G M = z_ex m ops ls (.int (nI ((z_tx p).getD j 0)) :: st) G M := by rw [z_ex_cons]; simp [z_step, h6, h20, hc, hj, nI_pos hn, nI_clamp hn]; rfl
theorem xo_83 : z_ex m ((83, a, b, c, pc) :: ops) ls st G M = some (.inr a, z_thr G, M) := by rw [z_ex_cons]; rfl
end
theorem zc_0 : z_cat [] ≤ 8 := Nat.zero_le 8
theorem zc_i (x : Int32) (r : List Value) : z_cat (.int x :: r) = 1 + z_cat r := rfl
theorem zc_r (x : Nat) (r : List Value) : z_cat (.ref x :: r) = 1 + z_cat r := rfl
theorem zc_l (x : Int64) (r : List Value) : z_cat (.long x :: r) = 2 + z_cat r := rfl
theorem zc_n : z_cat [] = 0 := rfl
theorem zi_m1 : nI 4294967295 = -1 := by decide
theorem z_sA_s (M : zM) (a : Nat) (f : Nat → Int32) : z_sA M a f a = f := by simp [z_sA]
theorem z_sA_n (M : zM) (a b : Nat) (f : Nat → Int32) (h : b ≠ a) : z_sA M a f b = M b := by simp [z_sA, h]
theorem z_sA_sA (M : zM) (a : Nat) (f g : Nat → Int32) : z_sA (z_sA M a f) a g = z_sA M a g := by funext q; by_cases h : q = a <;> simp [z_sA, h]
theorem z_sA_id (M : zM) (a : Nat) : z_sA M a (M a) = M := by funext q; by_cases h : q = a <;> simp [z_sA, h]
theorem z_u_s (f : Nat → Int32) (k : Nat) (v : Int32) : z_u f k v k = v := by simp [z_u]
theorem z_u_n (f : Nat → Int32) (k j : Nat) (v : Int32) (h : j ≠ k) : z_u f k v j = f j := by simp [z_u, h]
theorem z_u_u (f : Nat → Int32) (k : Nat) (v w : Int32) : z_u (z_u f k v) k w = z_u f k w := by funext q; by_cases h : q = k <;> simp [z_u, h]
end
section
/-! ===== printed by program: each block, each entry ===== -/
theorem zk_C_init_0 : z_blk 0 0 = [(2, 0, 0, 0, 0), (68, 0, 0, 3, 1), (2, 0, 0, 0, 4), (7, 200, 0, 0, 5), (74, 0, 0, 0, 8), (19, 6, 0, 9, 10), (2, 0, 0, 0, 13), (5, 4294967295, 0, 0, 14), (18, 6, 2, 13, 15), (2, 0, 0, 0, 18), (5, 3, 0, 0, 19), (74, 0, 0, 0, 20), (19, 6, 3, 17, 22), (2, 0, 0, 0, 25), (73, 4, 0, 20, 26), (39, 0, 0, 0, 29), (66, 1, 1, 22, 30), (19, 6, 4, 23, 33), (2, 0, 0, 0, 36), (73, 5, 0, 27, 37), (39, 0, 0, 0, 40), (65, 3, 1, 29, 41), (19, 6, 5, 30, 44), (2, 0, 0, 0, 47), (73, 5, 0, 27, 48), (39, 0, 0, 0, 51), (65, 3, 1, 29, 52), (19, 6, 6, 34, 55), (2, 0, 0, 0, 58), (6, 8, 0, 0, 59), (76, 4, 0, 27, 61), (19, 6, 7, 37, 64), (2, 0, 0, 0, 67), (73, 0, 0, 41, 68), (39, 0, 0, 0, 71), (66, 6, 1, 43, 72), (19, 6, 10, 44, 75), (5, 0, 0, 0, 78), (10, 1, 0, 0, 79), (55, 80, 0, 0, 80)] := rfl
theorem zk_C_init_80 : z_blk 0 80 = [(0, 1, 0, 0, 80), (6, 8, 0, 0, 81), (45, 105, 86, 0, 83)] := rfl
theorem zk_C_init_86 : z_blk 0 86 = [(2, 0, 0, 0, 86), (17, 6, 7, 37, 87), (0, 1, 0, 0, 90), (73, 5, 0, 27, 91), (39, 0, 0, 0, 94), (65, 3, 1, 29, 95), (35, 0, 0, 0, 98), (15, 1, 1, 0, 99), (54, 80, 0, 0, 102)] := rfl
theorem zk_C_init_105 : z_blk 0 105 = [(73, 3, 0, 48, 105), (39, 0, 0, 0, 108), (66, 2, 1, 50, 109), (12, 1, 0, 0, 112), (2, 1, 0, 0, 113), (5, 2, 0, 0, 114), (64, 7, 2, 51, 115), (2, 0, 0, 0, 118), (17, 6, 5, 30, 119), (2, 1, 0, 0, 122), (64, 8, 2, 55, 123), (69, 0, 0, 0, 126)] := rfl
theorem ze_C_init (w0 : Value) (G : zG) (M : zM) : z_call 0 [w0] G M = z_ex 0 (z_blk 0 0) [w0, .null] [] G M := rfl
theorem zr_C_init : z_rc 0 = 6 := rfl
theorem zk_T_init_0 : z_blk 1 0 = [(2, 0, 0, 0, 0), (68, 0, 0, 3, 1), (2, 0, 0, 0, 4), (73, 3, 0, 9, 5), (39, 0, 0, 0, 8), (66, 2, 1, 11, 9), (19, 4, 0, 12, 12), (2, 0, 0, 0, 15), (5, 0, 0, 0, 16), (74, 0, 0, 0, 17), (19, 4, 3, 18, 19), (69, 0, 0, 0, 22)] := rfl
theorem ze_T_init (w0 : Value) (G : zG) (M : zM) : z_call 1 [w0] G M = z_ex 1 (z_blk 1 0) [w0] [] G M := rfl
theorem zr_T_init : z_rc 1 = 4 := rfl
theorem zk_P_init_0 : z_blk 2 0 = [(2, 0, 0, 0, 0), (68, 0, 0, 3, 1), (2, 0, 0, 0, 4), (5, 4, 0, 0, 5), (74, 0, 0, 0, 6), (19, 3, 2, 9, 8), (2, 0, 0, 0, 11), (6, 8, 0, 0, 12), (74, 0, 0, 0, 14), (19, 3, 3, 15, 16), (69, 0, 0, 0, 19)] := rfl
theorem ze_P_init (w0 : Value) (G : zG) (M : zM) : z_call 2 [w0] G M = z_ex 2 (z_blk 2 0) [w0] [] G M := rfl
theorem zr_P_init : z_rc 2 = 3 := rfl
theorem zk_W_init_0 : z_blk 3 0 = [(2, 0, 0, 0, 0), (68, 0, 0, 3, 1), (2, 0, 0, 0, 4), (5, 4, 0, 0, 5), (74, 0, 0, 0, 6), (19, 5, 3, 9, 8), (2, 0, 0, 0, 11), (6, 8, 0, 0, 12), (74, 0, 0, 0, 14), (19, 5, 4, 15, 16), (2, 0, 0, 0, 19), (6, 8, 0, 0, 20), (76, 3, 0, 18, 22), (19, 5, 5, 20, 25), (2, 0, 0, 0, 28), (73, 1, 0, 24, 29), (39, 0, 0, 0, 32), (66, 4, 1, 26, 33), (19, 5, 6, 27, 36), (2, 0, 0, 0, 39), (7, 160, 0, 0, 40), (74, 0, 0, 0, 43), (19, 5, 7, 31, 45), (5, 0, 0, 0, 48), (10, 1, 0, 0, 49), (55, 50, 0, 0, 50)] := rfl
theorem zk_W_init_50 : z_blk 3 50 = [(0, 1, 0, 0, 50), (6, 8, 0, 0, 51), (45, 76, 56, 0, 53)] := rfl
theorem zk_W_init_56 : z_blk 3 56 = [(2, 0, 0, 0, 56), (17, 5, 5, 20, 57), (0, 1, 0, 0, 60), (73, 2, 0, 18, 61), (39, 0, 0, 0, 64), (0, 1, 0, 0, 65), (65, 5, 2, 34, 66), (35, 0, 0, 0, 69), (15, 1, 1, 0, 70), (54, 50, 0, 0, 73)] := rfl
theorem zk_W_init_76 : z_blk 3 76 = [(69, 0, 0, 0, 76)] := rfl
theorem ze_W_init (w0 : Value) (G : zG) (M : zM) : z_call 3 [w0] G M = z_ex 3 (z_blk 3 0) [w0, .null] [] G M := rfl
theorem zr_W_init : z_rc 3 = 5 := rfl
theorem zk_A_init_0 : z_blk 4 0 = [(2, 0, 0, 0, 0), (68, 0, 0, 3, 1), (2, 0, 0, 0, 4), (7, 7200, 0, 0, 5), (74, 0, 0, 0, 8), (19, 1, 0, 9, 10), (2, 0, 0, 0, 13), (6, 8, 0, 0, 14), (74, 0, 0, 0, 16), (19, 1, 4, 15, 18), (2, 0, 0, 0, 21), (6, 8, 0, 0, 22), (74, 0, 0, 0, 24), (19, 1, 5, 18, 26), (69, 0, 0, 0, 29)] := rfl
theorem ze_A_init (w0 : Value) (G : zG) (M : zM) : z_call 4 [w0] G M = z_ex 4 (z_blk 4 0) [w0] [] G M := rfl
theorem zr_A_init : z_rc 4 = 1 := rfl
theorem zk_B_init_0 : z_blk 5 0 = [(2, 0, 0, 0, 0), (68, 0, 0, 3, 1), (2, 0, 0, 0, 4), (6, 6, 0, 0, 5), (74, 0, 0, 0, 7), (19, 2, 12, 9, 9), (2, 0, 0, 0, 12), (6, 6, 0, 0, 13), (74, 0, 0, 0, 15), (19, 2, 13, 15, 17), (2, 0, 0, 0, 20), (6, 7, 0, 0, 21), (74, 0, 0, 0, 23), (19, 2, 14, 18, 25), (2, 0, 0, 0, 28), (0, 1, 0, 0, 29), (18, 2, 0, 21, 30), (69, 0, 0, 0, 33)] := rfl
theorem ze_B_init (w0 w1 : Value) (G : zG) (M : zM) : z_call 5 [w0, w1] G M = z_ex 5 (z_blk 5 0) [w0, w1] [] G M := rfl
theorem zr_B_init : z_rc 5 = 2 := rfl
theorem zk_D_init_0 : z_blk 6 0 = [(2, 0, 0, 0, 0), (68, 0, 0, 1, 1), (69, 0, 0, 0, 4)] := rfl
theorem ze_D_init (w0 : Value) (G : zG) (M : zM) : z_call 6 [w0] G M = z_ex 6 (z_blk 6 0) [w0] [] G M := rfl
theorem zr_D_init : z_rc 6 = 0 := rfl
theorem zk_P_plain_0 : z_blk 7 0 = [(2, 0, 0, 0, 0), (0, 1, 0, 0, 1), (18, 3, 0, 18, 2), (2, 0, 0, 0, 5), (5, 3, 0, 0, 6), (18, 3, 1, 22, 7), (2, 0, 0, 0, 10), (17, 3, 2, 9, 11), (5, 0, 0, 0, 14), (6, 8, 0, 0, 15), (33, 0, 0, 0, 17), (2, 0, 0, 0, 18), (17, 3, 2, 9, 19), (5, 1, 0, 0, 22), (5, 4, 0, 0, 23), (33, 0, 0, 0, 24), (2, 0, 0, 0, 25), (17, 3, 2, 9, 26), (5, 2, 0, 0, 29), (5, 3, 0, 0, 30), (33, 0, 0, 0, 31), (2, 0, 0, 0, 32), (17, 3, 2, 9, 33), (5, 3, 0, 0, 36), (5, 1, 0, 0, 37), (33, 0, 0, 0, 38), (5, 0, 0, 0, 39), (10, 2, 0, 0, 40), (55, 41, 0, 0, 41)] := rfl
theorem zk_P_plain_41 : z_blk 7 41 = [(0, 2, 0, 0, 41), (6, 8, 0, 0, 42), (45, 62, 47, 0, 44)] := rfl
theorem zk_P_plain_47 : z_blk 7 47 = [(2, 0, 0, 0, 47), (17, 3, 3, 15, 48), (0, 2, 0, 0, 51), (0, 1, 0, 0, 52), (0, 2, 0, 0, 53), (21, 0, 0, 0, 54), (33, 0, 0, 0, 55), (15, 2, 1, 0, 56), (54, 41, 0, 0, 59)] := rfl
theorem zk_P_plain_62 : z_blk 7 62 = [(69, 0, 0, 0, 62)] := rfl
theorem ze_P_plain (w0 w1 : Value) (G : zG) (M : zM) : z_call 7 [w0, w1] G M = z_ex 7 (z_blk 7 0) [w0, w1, .null] [] G M := rfl
theorem zr_P_plain : z_rc 7 = 3 := rfl
theorem zk_W_begin_0 : z_blk 8 0 = [(2, 0, 0, 0, 0), (2, 1, 0, 0, 1), (16, 3, 0, 37, 2), (18, 5, 0, 43, 5), (2, 0, 0, 0, 8), (2, 1, 0, 0, 9), (16, 3, 1, 44, 10), (18, 5, 1, 47, 13), (2, 0, 0, 0, 16), (5, 0, 0, 0, 17), (18, 5, 2, 48, 18), (2, 1, 0, 0, 21), (17, 3, 2, 51, 22), (5, 0, 0, 0, 25), (2, 0, 0, 0, 26), (17, 5, 3, 9, 27), (5, 0, 0, 0, 30), (5, 4, 0, 0, 31), (80, 0, 0, 52, 32), (2, 0, 0, 0, 35), (17, 5, 6, 27, 36), (64, 9, 1, 58, 39), (2, 0, 0, 0, 42), (64, 11, 1, 61, 43), (41, 0, 0, 0, 46), (5, 0, 0, 0, 47), (10, 2, 0, 0, 48), (55, 49, 0, 0, 49)] := rfl
theorem zk_W_begin_49 : z_blk 8 49 = [(0, 2, 0, 0, 49), (2, 0, 0, 0, 50), (16, 5, 0, 43, 51), (45, 139, 57, 0, 54)] := rfl
theorem zk_W_begin_57 : z_blk 8 57 = [(2, 0, 0, 0, 57), (17, 5, 5, 20, 58), (0, 2, 0, 0, 61), (34, 0, 0, 0, 62), (12, 3, 0, 0, 63), (2, 3, 0, 0, 64), (2, 1, 0, 0, 65), (17, 3, 3, 65, 66), (0, 2, 0, 0, 69), (32, 0, 0, 0, 70), (18, 2, 1, 68, 71), (2, 3, 0, 0, 74), (5, 0, 0, 0, 75), (18, 2, 2, 71, 76), (5, 0, 0, 0, 79), (11, 4, 0, 0, 80), (55, 82, 0, 0, 82)] := rfl
theorem zk_W_begin_82 : z_blk 8 82 = [(1, 4, 0, 0, 82), (2, 0, 0, 0, 84), (16, 5, 0, 43, 85), (45, 124, 91, 0, 88)] := rfl
theorem zk_W_begin_91 : z_blk 8 91 = [(2, 1, 0, 0, 91), (17, 3, 3, 65, 92), (1, 4, 0, 0, 95), (32, 0, 0, 0, 97), (2, 3, 0, 0, 98), (16, 2, 1, 68, 99), (47, 118, 105, 0, 102)] := rfl
theorem zk_W_begin_105 : z_blk 8 105 = [(2, 3, 0, 0, 105), (39, 0, 0, 0, 106), (16, 2, 2, 71, 107), (5, 1, 0, 0, 110), (1, 4, 0, 0, 111), (26, 0, 0, 0, 113), (24, 0, 0, 0, 114), (18, 2, 2, 71, 115), (55, 118, 0, 0, 118)] := rfl
theorem zk_W_begin_118 : z_blk 8 118 = [(15, 4, 1, 0, 118), (54, 82, 0, 0, 121)] := rfl
theorem zk_W_begin_124 : z_blk 8 124 = [(2, 3, 0, 0, 124), (64, 14, 1, 74, 125), (2, 0, 0, 0, 128), (2, 3, 0, 0, 129), (64, 15, 2, 75, 130), (15, 2, 1, 0, 133), (54, 49, 0, 0, 136)] := rfl
theorem zk_W_begin_139 : z_blk 8 139 = [(2, 0, 0, 0, 139), (5, 0, 0, 0, 140), (18, 5, 8, 79, 141), (69, 0, 0, 0, 144)] := rfl
theorem ze_W_begin (w0 w1 : Value) (G : zG) (M : zM) : z_call 8 [w0, w1] G M = z_ex 8 (z_blk 8 0) [w0, w1, .null, .null, .null] [] G M := rfl
theorem zr_W_begin : z_rc 8 = 5 := rfl
theorem zk_A_wipe_0 : z_blk 9 0 = [(2, 0, 0, 0, 0), (5, 0, 0, 0, 1), (18, 1, 1, 21, 2), (2, 0, 0, 0, 5), (5, 0, 0, 0, 6), (18, 1, 2, 25, 7), (2, 0, 0, 0, 10), (5, 0, 0, 0, 11), (18, 1, 3, 28, 12), (2, 0, 0, 0, 15), (17, 1, 4, 15, 16), (5, 0, 0, 0, 19), (63, 10, 2, 31, 20), (2, 0, 0, 0, 23), (17, 1, 5, 18, 24), (5, 0, 0, 0, 27), (63, 10, 2, 31, 28), (69, 0, 0, 0, 31)] := rfl
theorem ze_A_wipe (w0 : Value) (G : zG) (M : zM) : z_call 9 [w0] G M = z_ex 9 (z_blk 9 0) [w0] [] G M := rfl
theorem zr_A_wipe : z_rc 9 = 1 := rfl
theorem zk_J_fill_0 : z_blk 10 0 = [(5, 0, 0, 0, 0), (10, 2, 0, 0, 1), (2, 0, 0, 0, 2), (36, 0, 0, 0, 3), (10, 3, 0, 0, 4), (55, 5, 0, 0, 5)] := rfl
theorem zk_J_fill_5 : z_blk 10 5 = [(0, 2, 0, 0, 5), (0, 3, 0, 0, 6), (45, 20, 10, 0, 7)] := rfl
theorem zk_J_fill_10 : z_blk 10 10 = [(2, 0, 0, 0, 10), (0, 2, 0, 0, 11), (0, 1, 0, 0, 12), (33, 0, 0, 0, 13), (15, 2, 1, 0, 14), (54, 5, 0, 0, 17)] := rfl
theorem zk_J_fill_20 : z_blk 10 20 = [(69, 0, 0, 0, 20)] := rfl
theorem ze_J_fill (w0 w1 : Value) (G : zG) (M : zM) : z_call 10 [w0, w1] G M = z_ex 10 (z_blk 10 0) [w0, w1, .null, .null] [] G M := rfl
theorem zk_W_mend_0 : z_blk 11 0 = [(5, 0, 0, 0, 0), (10, 1, 0, 0, 1), (5, 0, 0, 0, 2), (10, 2, 0, 0, 3), (55, 4, 0, 0, 4)] := rfl
theorem zk_W_mend_4 : z_blk 11 4 = [(0, 2, 0, 0, 4), (2, 0, 0, 0, 5), (16, 5, 0, 43, 6), (45, 52, 12, 0, 9)] := rfl
theorem zk_W_mend_12 : z_blk 11 12 = [(2, 0, 0, 0, 12), (64, 12, 1, 88, 13), (5, 1, 0, 0, 16), (0, 2, 0, 0, 17), (26, 0, 0, 0, 18), (5, 4294967295, 0, 0, 19), (25, 0, 0, 0, 20), (23, 0, 0, 0, 21), (10, 3, 0, 0, 22), (0, 1, 0, 0, 23), (0, 3, 0, 0, 24), (2, 0, 0, 0, 25), (17, 5, 4, 15, 26), (0, 2, 0, 0, 29), (32, 0, 0, 0, 30), (5, 4294967295, 0, 0, 31), (25, 0, 0, 0, 32), (23, 0, 0, 0, 33), (63, 13, 1, 91, 34), (20, 0, 0, 0, 37), (10, 1, 0, 0, 38), (2, 0, 0, 0, 39), (17, 5, 4, 15, 40), (0, 2, 0, 0, 43), (0, 3, 0, 0, 44), (33, 0, 0, 0, 45), (15, 2, 1, 0, 46), (54, 4, 0, 0, 49)] := rfl
theorem zk_W_mend_52 : z_blk 11 52 = [(0, 1, 0, 0, 52), (5, 2, 0, 0, 53), (29, 0, 0, 0, 54), (70, 0, 0, 0, 55)] := rfl
theorem ze_W_mend (w0 : Value) (G : zG) (M : zM) : z_call 11 [w0] G M = z_ex 11 (z_blk 11 0) [w0, .null, .null, .null] [] G M := rfl
theorem zr_W_mend : z_rc 11 = 5 := rfl
theorem zk_W_all_0 : z_blk 12 0 = [(5, 1, 0, 0, 0), (2, 0, 0, 0, 1), (16, 5, 0, 43, 2), (26, 0, 0, 0, 5), (5, 1, 0, 0, 6), (21, 0, 0, 0, 7), (70, 0, 0, 0, 8)] := rfl
theorem ze_W_all (w0 : Value) (G : zG) (M : zM) : z_call 12 [w0] G M = z_ex 12 (z_blk 12 0) [w0] [] G M := rfl
theorem zr_W_all : z_rc 12 = 5 := rfl
theorem zk_J_bitCount_0 : z_blk 13 0 = [(0, 0, 0, 0, 0), (0, 0, 0, 0, 1), (5, 1, 0, 0, 2), (28, 0, 0, 0, 3), (9, 1431655765, 0, 265, 4), (23, 0, 0, 0, 7), (21, 0, 0, 0, 8), (10, 0, 0, 0, 9), (0, 0, 0, 0, 10), (9, 858993459, 0, 266, 11), (23, 0, 0, 0, 14), (0, 0, 0, 0, 15), (5, 2, 0, 0, 16), (28, 0, 0, 0, 17), (9, 858993459, 0, 266, 18), (23, 0, 0, 0, 21), (20, 0, 0, 0, 22), (10, 0, 0, 0, 23), (0, 0, 0, 0, 24), (0, 0, 0, 0, 25), (5, 4, 0, 0, 26), (28, 0, 0, 0, 27), (20, 0, 0, 0, 28), (9, 252645135, 0, 267, 29), (23, 0, 0, 0, 32), (10, 0, 0, 0, 33), (0, 0, 0, 0, 34), (0, 0, 0, 0, 35), (6, 8, 0, 0, 36), (28, 0, 0, 0, 38), (20, 0, 0, 0, 39), (10, 0, 0, 0, 40), (0, 0, 0, 0, 41), (0, 0, 0, 0, 42), (6, 16, 0, 0, 43), (28, 0, 0, 0, 45), (20, 0, 0, 0, 46), (10, 0, 0, 0, 47), (0, 0, 0, 0, 48), (6, 63, 0, 0, 49), (23, 0, 0, 0, 51), (70, 0, 0, 0, 52)] := rfl
theorem ze_J_bitCount (w0 : Value) (G : zG) (M : zM) : z_call 13 [w0] G M = z_ex 13 (z_blk 13 0) [w0] [] G M := rfl
theorem zk_B_wipe_0 : z_blk 14 0 = [(2, 0, 0, 0, 0), (5, 0, 0, 0, 1), (18, 2, 5, 25, 2), (2, 0, 0, 0, 5), (5, 0, 0, 0, 6), (18, 2, 6, 28, 7), (2, 0, 0, 0, 10), (17, 2, 12, 9, 11), (5, 0, 0, 0, 14), (63, 10, 2, 31, 15), (2, 0, 0, 0, 18), (17, 2, 13, 15, 19), (5, 0, 0, 0, 22), (63, 10, 2, 31, 23), (2, 0, 0, 0, 26), (17, 2, 14, 18, 27), (5, 0, 0, 0, 30), (63, 10, 2, 31, 31), (69, 0, 0, 0, 34)] := rfl
theorem ze_B_wipe (w0 : Value) (G : zG) (M : zM) : z_call 14 [w0] G M = z_ex 14 (z_blk 14 0) [w0] [] G M := rfl
theorem zr_B_wipe : z_rc 14 = 2 := rfl
theorem zk_W_goAlone_0 : z_blk 15 0 = [(2, 1, 0, 0, 0), (39, 0, 0, 0, 1), (16, 2, 5, 228, 2), (5, 1, 0, 0, 5), (20, 0, 0, 0, 6), (18, 2, 5, 228, 7), (2, 0, 0, 0, 10), (2, 1, 0, 0, 11), (6, 10, 0, 0, 12), (2, 1, 0, 0, 14), (16, 2, 5, 228, 15), (22, 0, 0, 0, 18), (2, 1, 0, 0, 19), (16, 2, 0, 196, 20), (20, 0, 0, 0, 23), (64, 16, 3, 202, 24), (2, 1, 0, 0, 27), (2, 1, 0, 0, 28), (16, 2, 0, 196, 29), (18, 2, 4, 163, 32), (2, 1, 0, 0, 35), (64, 17, 1, 205, 36), (2, 1, 0, 0, 39), (5, 0, 0, 0, 40), (18, 2, 3, 97, 41), (2, 0, 0, 0, 44), (2, 1, 0, 0, 45), (5, 1, 0, 0, 46), (2, 0, 0, 0, 47), (17, 5, 3, 9, 48), (5, 0, 0, 0, 51), (32, 0, 0, 0, 52), (64, 19, 4, 190, 53), (2, 1, 0, 0, 56), (17, 2, 14, 115, 57), (5, 3, 0, 0, 60), (40, 0, 0, 0, 61), (32, 0, 0, 0, 62), (5, 1, 0, 0, 63), (20, 0, 0, 0, 64), (33, 0, 0, 0, 65), (69, 0, 0, 0, 66)] := rfl
theorem ze_W_goAlone (w0 w1 : Value) (G : zG) (M : zM) : z_call 15 [w0, w1] G M = z_ex 15 (z_blk 15 0) [w0, w1] [] G M := rfl
theorem zr_W_goAlone : z_rc 15 = 5 := rfl
theorem zk_W_regroup_0 : z_blk 16 0 = [(2, 1, 0, 0, 0), (16, 2, 6, 169, 1), (0, 2, 0, 0, 4), (43, 9, 8, 0, 5)] := rfl
theorem zk_W_regroup_8 : z_blk 16 8 = [(69, 0, 0, 0, 8)] := rfl
theorem zk_W_regroup_9 : z_blk 16 9 = [(2, 0, 0, 0, 9), (16, 5, 8, 79, 10), (6, 40, 0, 0, 13), (30, 0, 0, 0, 15), (5, 4, 0, 0, 16), (22, 0, 0, 0, 17), (10, 3, 0, 0, 18), (2, 0, 0, 0, 19), (17, 5, 7, 31, 20), (0, 3, 0, 0, 23), (2, 0, 0, 0, 24), (16, 5, 2, 48, 25), (33, 0, 0, 0, 28), (2, 0, 0, 0, 29), (17, 5, 7, 31, 30), (0, 3, 0, 0, 33), (5, 1, 0, 0, 34), (20, 0, 0, 0, 35), (2, 1, 0, 0, 36), (16, 2, 0, 196, 37), (33, 0, 0, 0, 40), (2, 0, 0, 0, 41), (17, 5, 7, 31, 42), (0, 3, 0, 0, 45), (5, 2, 0, 0, 46), (20, 0, 0, 0, 47), (2, 1, 0, 0, 48), (16, 2, 6, 169, 49), (33, 0, 0, 0, 52), (2, 0, 0, 0, 53), (17, 5, 7, 31, 54), (0, 3, 0, 0, 57), (5, 3, 0, 0, 58), (20, 0, 0, 0, 59), (0, 2, 0, 0, 60), (33, 0, 0, 0, 61), (2, 0, 0, 0, 62), (39, 0, 0, 0, 63), (16, 5, 8, 79, 64), (5, 1, 0, 0, 67), (20, 0, 0, 0, 68), (18, 5, 8, 79, 69), (2, 1, 0, 0, 72), (0, 2, 0, 0, 73), (18, 2, 6, 169, 74), (69, 0, 0, 0, 77)] := rfl
theorem ze_W_regroup (w0 w1 w2 : Value) (G : zG) (M : zM) : z_call 16 [w0, w1, w2] G M = z_ex 16 (z_blk 16 0) [w0, w1, w2, .null] [] G M := rfl
theorem zr_W_regroup : z_rc 16 = 5 := rfl
theorem zk_B_standAlone_0 : z_blk 17 0 = [(2, 0, 0, 0, 0), (2, 0, 0, 0, 1), (64, 18, 1, 70, 2), (18, 2, 7, 49, 5), (2, 0, 0, 0, 8), (5, 0, 0, 0, 9), (18, 2, 8, 52, 10), (2, 0, 0, 0, 13), (5, 0, 0, 0, 14), (18, 2, 9, 55, 15), (69, 0, 0, 0, 18)] := rfl
theorem ze_B_standAlone (w0 : Value) (G : zG) (M : zM) : z_call 17 [w0] G M = z_ex 17 (z_blk 17 0) [w0] [] G M := rfl
theorem zr_B_standAlone : z_rc 17 = 2 := rfl
theorem zk_B_bit_0 : z_blk 18 0 = [(5, 1, 0, 0, 0), (2, 0, 0, 0, 1), (16, 2, 0, 21, 2), (26, 0, 0, 0, 5), (70, 0, 0, 0, 6)] := rfl
theorem ze_B_bit (w0 : Value) (G : zG) (M : zM) : z_call 18 [w0] G M = z_ex 18 (z_blk 18 0) [w0] [] G M := rfl
theorem zr_B_bit : z_rc 18 = 2 := rfl
theorem zk_W_await_0 : z_blk 19 0 = [(2, 1, 0, 0, 0), (0, 2, 0, 0, 1), (18, 2, 10, 100, 2), (2, 1, 0, 0, 5), (2, 0, 0, 0, 6), (16, 5, 2, 48, 7), (0, 3, 0, 0, 10), (20, 0, 0, 0, 11), (18, 2, 11, 141, 12), (69, 0, 0, 0, 15)] := rfl
theorem ze_W_await (w0 w1 w2 w3 : Value) (G : zG) (M : zM) : z_call 19 [w0, w1, w2, w3] G M = z_ex 19 (z_blk 19 0) [w0, w1, w2, w3] [] G M := rfl
theorem zr_W_await : z_rc 19 = 5 := rfl
theorem zk_C_feed_0 : z_blk 20 0 = [(2, 0, 0, 0, 0), (16, 6, 1, 59, 1), (6, 20, 0, 0, 4), (20, 0, 0, 0, 6), (7, 200, 0, 0, 7), (47, 15, 13, 0, 10)] := rfl
theorem zk_C_feed_13 : z_blk 20 13 = [(5, 4294967295, 0, 0, 13), (70, 0, 0, 0, 14)] := rfl
theorem zk_C_feed_15 : z_blk 20 15 = [(2, 0, 0, 0, 15), (0, 1, 0, 0, 16), (64, 21, 2, 62, 17), (2, 0, 0, 0, 20), (0, 2, 0, 0, 21), (64, 21, 2, 62, 22), (2, 0, 0, 0, 25), (0, 3, 0, 0, 26), (64, 21, 2, 62, 27), (2, 0, 0, 0, 30), (1, 4, 0, 0, 31), (64, 21, 2, 62, 33), (2, 0, 0, 0, 36), (1, 5, 0, 0, 37), (64, 21, 2, 62, 39), (2, 0, 0, 0, 42), (16, 6, 1, 59, 43), (70, 0, 0, 0, 46)] := rfl
theorem ze_C_feed (w0 w1 w2 w3 w4 w5 : Value) (G : zG) (M : zM) : z_call 20 [w0, w1, w2, w3, w4, w5] G M = z_ex 20 (z_blk 20 0) [w0, w1, w2, w3, w4, w5] [] G M := rfl
theorem zr_C_feed : z_rc 20 = 6 := rfl
theorem zk_C_feedNumber_0 : z_blk 21 0 = [(6, 24, 0, 0, 0), (10, 2, 0, 0, 2), (55, 3, 0, 0, 3)] := rfl
theorem zk_C_feedNumber_3 : z_blk 21 3 = [(0, 2, 0, 0, 3), (50, 49, 7, 0, 4)] := rfl
theorem zk_C_feedNumber_7 : z_blk 21 7 = [(2, 0, 0, 0, 7), (16, 6, 1, 59, 8), (7, 200, 0, 0, 11), (45, 49, 17, 0, 14)] := rfl
theorem zk_C_feedNumber_17 : z_blk 21 17 = [(2, 0, 0, 0, 17), (17, 6, 0, 9, 18), (2, 0, 0, 0, 21), (16, 6, 1, 59, 22), (0, 1, 0, 0, 25), (0, 2, 0, 0, 26), (28, 0, 0, 0, 27), (7, 255, 0, 0, 28), (23, 0, 0, 0, 31), (33, 0, 0, 0, 32), (2, 0, 0, 0, 33), (39, 0, 0, 0, 34), (16, 6, 1, 59, 35), (5, 1, 0, 0, 38), (20, 0, 0, 0, 39), (18, 6, 1, 59, 40), (15, 2, 4294967288, 0, 43), (54, 3, 0, 0, 46)] := rfl
theorem zk_C_feedNumber_49 : z_blk 21 49 = [(69, 0, 0, 0, 49)] := rfl
theorem ze_C_feedNumber (w0 w1 : Value) (G : zG) (M : zM) : z_call 21 [w0, w1] G M = z_ex 21 (z_blk 21 0) [w0, w1, .null] [] G M := rfl
theorem zr_C_feedNumber : z_rc 21 = 6 := rfl
theorem zk_C_fault_0 : z_blk 22 0 = [(2, 0, 0, 0, 0), (16, 6, 2, 13, 1), (70, 0, 0, 0, 4)] := rfl
theorem ze_C_fault (w0 : Value) (G : zG) (M : zM) : z_call 22 [w0] G M = z_ex 22 (z_blk 22 0) [w0] [] G M := rfl
theorem zr_C_fault : z_rc 22 = 6 := rfl
theorem zk_C_heal_0 : z_blk 23 0 = [(2, 0, 0, 0, 0), (64, 24, 1, 87, 1), (2, 0, 0, 0, 4), (17, 6, 5, 30, 5), (64, 11, 1, 101, 8), (70, 0, 0, 0, 11)] := rfl
theorem ze_C_heal (w0 : Value) (G : zG) (M : zM) : z_call 23 [w0] G M = z_ex 23 (z_blk 23 0) [w0] [] G M := rfl
theorem zr_C_heal : z_rc 23 = 6 := rfl
theorem zk_C_keepPast_0 : z_blk 24 0 = [(2, 0, 0, 0, 0), (17, 6, 7, 37, 1), (2, 0, 0, 0, 4), (16, 6, 8, 146, 5), (34, 0, 0, 0, 8), (2, 0, 0, 0, 9), (17, 6, 5, 30, 10), (64, 25, 2, 149, 13), (2, 0, 0, 0, 16), (2, 0, 0, 0, 17), (16, 6, 8, 146, 18), (5, 1, 0, 0, 21), (20, 0, 0, 0, 22), (6, 8, 0, 0, 23), (30, 0, 0, 0, 25), (18, 6, 8, 146, 26), (2, 0, 0, 0, 29), (16, 6, 9, 77, 30), (6, 8, 0, 0, 33), (45, 48, 38, 0, 35)] := rfl
theorem zk_C_keepPast_38 : z_blk 24 38 = [(2, 0, 0, 0, 38), (39, 0, 0, 0, 39), (16, 6, 9, 77, 40), (5, 1, 0, 0, 43), (20, 0, 0, 0, 44), (18, 6, 9, 77, 45), (55, 48, 0, 0, 48)] := rfl
theorem zk_C_keepPast_48 : z_blk 24 48 = [(69, 0, 0, 0, 48)] := rfl
theorem ze_C_keepPast (w0 : Value) (G : zG) (M : zM) : z_call 24 [w0] G M = z_ex 24 (z_blk 24 0) [w0] [] G M := rfl
theorem zr_C_keepPast : z_rc 24 = 6 := rfl
theorem zk_W_copyFrom_0 : z_blk 25 0 = [(2, 0, 0, 0, 0), (2, 1, 0, 0, 1), (16, 5, 0, 43, 2), (18, 5, 0, 43, 5), (2, 0, 0, 0, 8), (2, 1, 0, 0, 9), (16, 5, 1, 47, 10), (18, 5, 1, 47, 13), (2, 0, 0, 0, 16), (2, 1, 0, 0, 17), (16, 5, 2, 48, 18), (18, 5, 2, 48, 21), (2, 0, 0, 0, 24), (2, 1, 0, 0, 25), (16, 5, 8, 79, 26), (18, 5, 8, 79, 29), (2, 1, 0, 0, 32), (17, 5, 3, 9, 33), (5, 0, 0, 0, 36), (2, 0, 0, 0, 37), (17, 5, 3, 9, 38), (5, 0, 0, 0, 41), (5, 4, 0, 0, 42), (80, 0, 0, 52, 43), (2, 1, 0, 0, 46), (17, 5, 4, 15, 47), (5, 0, 0, 0, 50), (2, 0, 0, 0, 51), (17, 5, 4, 15, 52), (5, 0, 0, 0, 55), (6, 8, 0, 0, 56), (80, 0, 0, 52, 58), (2, 1, 0, 0, 61), (17, 5, 7, 31, 62), (5, 0, 0, 0, 65), (2, 0, 0, 0, 66), (17, 5, 7, 31, 67), (5, 0, 0, 0, 70), (2, 0, 0, 0, 71), (17, 5, 7, 31, 72), (36, 0, 0, 0, 75), (80, 0, 0, 52, 76), (2, 0, 0, 0, 79), (17, 5, 6, 27, 80), (2, 1, 0, 0, 83), (17, 5, 6, 27, 84), (64, 26, 2, 82, 87), (5, 0, 0, 0, 90), (10, 2, 0, 0, 91), (55, 92, 0, 0, 92)] := rfl
theorem zk_W_copyFrom_92 : z_blk 25 92 = [(0, 2, 0, 0, 92), (2, 0, 0, 0, 93), (16, 5, 0, 43, 94), (45, 121, 100, 0, 97)] := rfl
theorem zk_W_copyFrom_100 : z_blk 25 100 = [(2, 0, 0, 0, 100), (17, 5, 5, 20, 101), (0, 2, 0, 0, 104), (34, 0, 0, 0, 105), (2, 1, 0, 0, 106), (17, 5, 5, 20, 107), (0, 2, 0, 0, 110), (34, 0, 0, 0, 111), (64, 27, 2, 86, 112), (15, 2, 1, 0, 115), (54, 92, 0, 0, 118)] := rfl
theorem zk_W_copyFrom_121 : z_blk 25 121 = [(69, 0, 0, 0, 121)] := rfl
theorem ze_W_copyFrom (w0 w1 : Value) (G : zG) (M : zM) : z_call 25 [w0, w1] G M = z_ex 25 (z_blk 25 0) [w0, w1, .null] [] G M := rfl
theorem zr_W_copyFrom : z_rc 25 = 5 := rfl
theorem zk_A_copyFrom_0 : z_blk 26 0 = [(2, 1, 0, 0, 0), (17, 1, 0, 9, 1), (5, 0, 0, 0, 4), (2, 0, 0, 0, 5), (17, 1, 0, 9, 6), (5, 0, 0, 0, 9), (2, 1, 0, 0, 10), (16, 1, 1, 21, 11), (6, 12, 0, 0, 14), (22, 0, 0, 0, 16), (80, 0, 0, 37, 17), (2, 0, 0, 0, 20), (2, 1, 0, 0, 21), (16, 1, 1, 21, 22), (18, 1, 1, 21, 25), (2, 0, 0, 0, 28), (2, 1, 0, 0, 29), (16, 1, 2, 25, 30), (18, 1, 2, 25, 33), (2, 0, 0, 0, 36), (2, 1, 0, 0, 37), (16, 1, 3, 28, 38), (18, 1, 3, 28, 41), (2, 1, 0, 0, 44), (17, 1, 4, 15, 45), (5, 0, 0, 0, 48), (2, 0, 0, 0, 49), (17, 1, 4, 15, 50), (5, 0, 0, 0, 53), (6, 8, 0, 0, 54), (80, 0, 0, 37, 56), (2, 1, 0, 0, 59), (17, 1, 5, 18, 60), (5, 0, 0, 0, 63), (2, 0, 0, 0, 64), (17, 1, 5, 18, 65), (5, 0, 0, 0, 68), (6, 8, 0, 0, 69), (80, 0, 0, 37, 71), (69, 0, 0, 0, 74)] := rfl
theorem ze_A_copyFrom (w0 w1 : Value) (G : zG) (M : zM) : z_call 26 [w0, w1] G M = z_ex 26 (z_blk 26 0) [w0, w1] [] G M := rfl
theorem zr_A_copyFrom : z_rc 26 = 1 := rfl
theorem zk_B_copyFrom_0 : z_blk 27 0 = [(2, 0, 0, 0, 0), (2, 1, 0, 0, 1), (16, 2, 1, 37, 2), (18, 2, 1, 37, 5), (2, 0, 0, 0, 8), (2, 1, 0, 0, 9), (16, 2, 2, 40, 10), (18, 2, 2, 40, 13), (2, 0, 0, 0, 16), (2, 1, 0, 0, 17), (16, 2, 3, 43, 18), (18, 2, 3, 43, 21), (2, 0, 0, 0, 24), (2, 1, 0, 0, 25), (16, 2, 4, 46, 26), (18, 2, 4, 46, 29), (2, 0, 0, 0, 32), (2, 1, 0, 0, 33), (16, 2, 5, 25, 34), (18, 2, 5, 25, 37), (2, 0, 0, 0, 40), (2, 1, 0, 0, 41), (16, 2, 6, 28, 42), (18, 2, 6, 28, 45), (2, 0, 0, 0, 48), (2, 1, 0, 0, 49), (16, 2, 7, 49, 50), (18, 2, 7, 49, 53), (2, 0, 0, 0, 56), (2, 1, 0, 0, 57), (16, 2, 8, 52, 58), (18, 2, 8, 52, 61), (2, 0, 0, 0, 64), (2, 1, 0, 0, 65), (16, 2, 9, 55, 66), (18, 2, 9, 55, 69), (2, 0, 0, 0, 72), (2, 1, 0, 0, 73), (16, 2, 10, 58, 74), (18, 2, 10, 58, 77), (2, 0, 0, 0, 80), (2, 1, 0, 0, 81), (16, 2, 11, 61, 82), (18, 2, 11, 61, 85), (2, 1, 0, 0, 88), (17, 2, 12, 9, 89), (5, 0, 0, 0, 92), (2, 0, 0, 0, 93), (17, 2, 12, 9, 94), (5, 0, 0, 0, 97), (6, 6, 0, 0, 98), (80, 0, 0, 64, 100), (2, 1, 0, 0, 103), (17, 2, 13, 15, 104), (5, 0, 0, 0, 107), (2, 0, 0, 0, 108), (17, 2, 13, 15, 109), (5, 0, 0, 0, 112), (6, 6, 0, 0, 113), (80, 0, 0, 64, 115), (2, 1, 0, 0, 118), (17, 2, 14, 18, 119), (5, 0, 0, 0, 122), (2, 0, 0, 0, 123), (17, 2, 14, 18, 124), (5, 0, 0, 0, 127), (6, 7, 0, 0, 128), (80, 0, 0, 64, 130), (69, 0, 0, 0, 133)] := rfl
theorem ze_B_copyFrom (w0 w1 : Value) (G : zG) (M : zM) : z_call 27 [w0, w1] G M = z_ex 27 (z_blk 27 0) [w0, w1] [] G M := rfl
theorem zr_B_copyFrom : z_rc 27 = 2 := rfl
theorem zk_C_undo_0 : z_blk 28 0 = [(2, 0, 0, 0, 0), (16, 6, 9, 77, 1), (49, 9, 7, 0, 4)] := rfl
theorem zk_C_undo_7 : z_blk 28 7 = [(5, 4294967295, 0, 0, 7), (70, 0, 0, 0, 8)] := rfl
theorem zk_C_undo_9 : z_blk 28 9 = [(2, 0, 0, 0, 9), (39, 0, 0, 0, 10), (16, 6, 9, 77, 11), (5, 1, 0, 0, 14), (21, 0, 0, 0, 15), (18, 6, 9, 77, 16), (2, 0, 0, 0, 19), (2, 0, 0, 0, 20), (16, 6, 8, 146, 21), (6, 8, 0, 0, 24), (20, 0, 0, 0, 26), (5, 1, 0, 0, 27), (21, 0, 0, 0, 28), (6, 8, 0, 0, 29), (30, 0, 0, 0, 31), (18, 6, 8, 146, 32), (2, 0, 0, 0, 35), (17, 6, 7, 37, 36), (2, 0, 0, 0, 39), (16, 6, 8, 146, 40), (34, 0, 0, 0, 43), (12, 1, 0, 0, 44), (2, 0, 0, 0, 45), (17, 6, 7, 37, 46), (2, 0, 0, 0, 49), (16, 6, 8, 146, 50), (2, 0, 0, 0, 53), (17, 6, 5, 30, 54), (35, 0, 0, 0, 57), (2, 0, 0, 0, 58), (2, 1, 0, 0, 59), (19, 6, 5, 30, 60), (2, 0, 0, 0, 63), (16, 6, 9, 77, 64), (70, 0, 0, 0, 67)] := rfl
theorem ze_C_undo (w0 : Value) (G : zG) (M : zM) : z_call 28 [w0] G M = z_ex 28 (z_blk 28 0) [w0, .null] [] G M := rfl
theorem zr_C_undo : z_rc 28 = 6 := rfl
theorem zk_C_chiefs_0 : z_blk 29 0 = [(2, 0, 0, 0, 0), (17, 6, 5, 30, 1), (63, 30, 1, 269, 4), (70, 0, 0, 0, 7)] := rfl
theorem ze_C_chiefs (w0 : Value) (G : zG) (M : zM) : z_call 29 [w0] G M = z_ex 29 (z_blk 29 0) [w0] [] G M := rfl
theorem zr_C_chiefs : z_rc 29 = 6 := rfl
theorem zk_S_leaders_0 : z_blk 30 0 = [(5, 0, 0, 0, 0), (10, 1, 0, 0, 1), (5, 0, 0, 0, 2), (10, 2, 0, 0, 3), (55, 4, 0, 0, 4)] := rfl
theorem zk_S_leaders_4 : z_blk 30 4 = [(0, 2, 0, 0, 4), (2, 0, 0, 0, 5), (16, 5, 0, 9, 6), (45, 36, 12, 0, 9)] := rfl
theorem zk_S_leaders_12 : z_blk 30 12 = [(2, 0, 0, 0, 12), (17, 5, 5, 15, 13), (0, 2, 0, 0, 16), (34, 0, 0, 0, 17), (64, 31, 1, 92, 18), (48, 30, 24, 0, 21)] := rfl
theorem zk_S_leaders_24 : z_blk 30 24 = [(0, 1, 0, 0, 24), (5, 1, 0, 0, 25), (0, 2, 0, 0, 26), (26, 0, 0, 0, 27), (24, 0, 0, 0, 28), (10, 1, 0, 0, 29), (55, 30, 0, 0, 30)] := rfl
theorem zk_S_leaders_30 : z_blk 30 30 = [(15, 2, 1, 0, 30), (54, 4, 0, 0, 33)] := rfl
theorem zk_S_leaders_36 : z_blk 30 36 = [(0, 1, 0, 0, 36), (70, 0, 0, 0, 37)] := rfl
theorem ze_S_leaders (w0 : Value) (G : zG) (M : zM) : z_call 30 [w0] G M = z_ex 30 (z_blk 30 0) [w0, .null, .null] [] G M := rfl
theorem zk_B_leads_0 : z_blk 31 0 = [(2, 0, 0, 0, 0), (16, 2, 3, 43, 1), (49, 22, 7, 0, 4)] := rfl
theorem zk_B_leads_7 : z_blk 31 7 = [(2, 0, 0, 0, 7), (16, 2, 4, 46, 8), (2, 0, 0, 0, 11), (16, 2, 0, 21, 12), (43, 22, 18, 0, 15)] := rfl
theorem zk_B_leads_18 : z_blk 31 18 = [(5, 1, 0, 0, 18), (54, 23, 0, 0, 19)] := rfl
theorem zk_B_leads_22 : z_blk 31 22 = [(5, 0, 0, 0, 22), (55, 23, 0, 0, 23)] := rfl
theorem zk_B_leads_23 : z_blk 31 23 = [(72, 0, 0, 0, 23)] := rfl
theorem ze_B_leads (w0 : Value) (G : zG) (M : zM) : z_call 31 [w0] G M = z_ex 31 (z_blk 31 0) [w0] [] G M := rfl
theorem zr_B_leads : z_rc 31 = 2 := rfl
theorem zk_C_until_0 : z_blk 32 0 = [(2, 0, 0, 0, 0), (17, 6, 6, 34, 1), (2, 0, 0, 0, 4), (17, 6, 5, 30, 5), (64, 25, 2, 149, 8), (2, 0, 0, 0, 11), (17, 6, 6, 34, 12), (63, 33, 1, 275, 15), (70, 0, 0, 0, 18)] := rfl
theorem ze_C_until (w0 : Value) (G : zG) (M : zM) : z_call 32 [w0] G M = z_ex 32 (z_blk 32 0) [w0] [] G M := rfl
theorem zr_C_until : z_rc 32 = 6 := rfl
theorem zk_C_untilOne_0 : z_blk 33 0 = [(5, 0, 0, 0, 0), (10, 1, 0, 0, 1), (55, 2, 0, 0, 2)] := rfl
theorem zk_C_untilOne_2 : z_blk 33 2 = [(0, 1, 0, 0, 2), (7, 300, 0, 0, 3), (46, 33, 9, 0, 6)] := rfl
theorem zk_C_untilOne_9 : z_blk 33 9 = [(0, 1, 0, 0, 9), (53, 18, 13, 0, 10)] := rfl
theorem zk_C_untilOne_13 : z_blk 33 13 = [(2, 0, 0, 0, 13), (64, 34, 1, 302, 14), (41, 0, 0, 0, 17), (55, 18, 0, 0, 18)] := rfl
theorem zk_C_untilOne_18 : z_blk 33 18 = [(2, 0, 0, 0, 18), (63, 53, 1, 174, 19), (48, 27, 25, 0, 22)] := rfl
theorem zk_C_untilOne_25 : z_blk 33 25 = [(0, 1, 0, 0, 25), (70, 0, 0, 0, 26)] := rfl
theorem zk_C_untilOne_27 : z_blk 33 27 = [(15, 1, 1, 0, 27), (54, 2, 0, 0, 30)] := rfl
theorem zk_C_untilOne_33 : z_blk 33 33 = [(5, 4294967295, 0, 0, 33), (70, 0, 0, 0, 34)] := rfl
theorem ze_C_untilOne (w0 : Value) (G : zG) (M : zM) : z_call 33 [w0] G M = z_ex 33 (z_blk 33 0) [w0, .null] [] G M := rfl
theorem zr_C_untilOne : z_rc 33 = 6 := rfl
theorem zk_W_exchange_0 : z_blk 34 0 = [(2, 0, 0, 0, 0), (39, 0, 0, 0, 1), (16, 5, 2, 48, 2), (5, 1, 0, 0, 5), (20, 0, 0, 0, 6), (18, 5, 2, 48, 7), (5, 0, 0, 0, 10), (10, 1, 0, 0, 11), (2, 0, 0, 0, 12), (17, 5, 6, 27, 13), (16, 1, 1, 118, 16), (10, 2, 0, 0, 19), (5, 0, 0, 0, 20), (10, 3, 0, 0, 21), (55, 22, 0, 0, 22)] := rfl
theorem zk_W_exchange_22 : z_blk 34 22 = [(0, 3, 0, 0, 22), (0, 2, 0, 0, 23), (45, 94, 27, 0, 24)] := rfl
theorem zk_W_exchange_27 : z_blk 34 27 = [(2, 0, 0, 0, 27), (17, 5, 6, 27, 28), (0, 3, 0, 0, 31), (5, 3, 0, 0, 32), (64, 35, 3, 121, 33), (2, 0, 0, 0, 36), (16, 5, 2, 48, 37), (43, 88, 43, 0, 40)] := rfl
theorem zk_W_exchange_43 : z_blk 34 43 = [(2, 0, 0, 0, 43), (17, 5, 6, 27, 44), (39, 0, 0, 0, 47), (16, 1, 2, 125, 48), (5, 1, 0, 0, 51), (20, 0, 0, 0, 52), (18, 1, 2, 125, 53), (2, 0, 0, 0, 56), (0, 3, 0, 0, 57), (64, 36, 2, 128, 58), (48, 75, 64, 0, 61)] := rfl
theorem zk_W_exchange_64 : z_blk 34 64 = [(2, 0, 0, 0, 64), (0, 3, 0, 0, 65), (64, 37, 2, 132, 66), (15, 1, 1, 0, 69), (54, 88, 0, 0, 72)] := rfl
theorem zk_W_exchange_75 : z_blk 34 75 = [(2, 0, 0, 0, 75), (17, 5, 6, 27, 76), (39, 0, 0, 0, 79), (16, 1, 3, 135, 80), (5, 1, 0, 0, 83), (20, 0, 0, 0, 84), (18, 1, 3, 135, 85), (55, 88, 0, 0, 88)] := rfl
theorem zk_W_exchange_88 : z_blk 34 88 = [(15, 3, 1, 0, 88), (54, 22, 0, 0, 91)] := rfl
theorem zk_W_exchange_94 : z_blk 34 94 = [(2, 0, 0, 0, 94), (17, 5, 6, 27, 95), (2, 0, 0, 0, 98), (16, 5, 2, 48, 99), (64, 48, 2, 138, 102), (5, 0, 0, 0, 105), (10, 3, 0, 0, 106), (55, 107, 0, 0, 107)] := rfl
theorem zk_W_exchange_107 : z_blk 34 107 = [(0, 3, 0, 0, 107), (2, 0, 0, 0, 108), (16, 5, 0, 43, 109), (45, 160, 115, 0, 112)] := rfl
theorem zk_W_exchange_115 : z_blk 34 115 = [(2, 0, 0, 0, 115), (17, 5, 5, 20, 116), (0, 3, 0, 0, 119), (34, 0, 0, 0, 120), (16, 2, 3, 97, 121), (5, 2, 0, 0, 124), (42, 154, 128, 0, 125)] := rfl
theorem zk_W_exchange_128 : z_blk 34 128 = [(2, 0, 0, 0, 128), (17, 5, 5, 20, 129), (0, 3, 0, 0, 132), (34, 0, 0, 0, 133), (16, 2, 11, 141, 134), (2, 0, 0, 0, 137), (16, 5, 2, 48, 138), (43, 154, 144, 0, 141)] := rfl
theorem zk_W_exchange_144 : z_blk 34 144 = [(2, 0, 0, 0, 144), (2, 0, 0, 0, 145), (17, 5, 5, 20, 146), (0, 3, 0, 0, 149), (34, 0, 0, 0, 150), (64, 49, 2, 144, 151), (55, 154, 0, 0, 154)] := rfl
theorem zk_W_exchange_154 : z_blk 34 154 = [(15, 3, 1, 0, 154), (54, 107, 0, 0, 157)] := rfl
theorem zk_W_exchange_160 : z_blk 34 160 = [(0, 1, 0, 0, 160), (70, 0, 0, 0, 161)] := rfl
theorem ze_W_exchange (w0 : Value) (G : zG) (M : zM) : z_call 34 [w0] G M = z_ex 34 (z_blk 34 0) [w0, .null, .null, .null] [] G M := rfl
theorem zr_W_exchange : z_rc 34 = 5 := rfl
theorem zk_A_field_0 : z_blk 35 0 = [(2, 0, 0, 0, 0), (17, 1, 0, 9, 1), (0, 1, 0, 0, 4), (6, 12, 0, 0, 5), (22, 0, 0, 0, 7), (0, 2, 0, 0, 8), (20, 0, 0, 0, 9), (32, 0, 0, 0, 10), (70, 0, 0, 0, 11)] := rfl
theorem ze_A_field (w0 w1 w2 : Value) (G : zG) (M : zM) : z_call 35 [w0, w1, w2] G M = z_ex 35 (z_blk 35 0) [w0, w1, w2] [] G M := rfl
theorem zr_A_field : z_rc 35 = 1 := rfl
theorem zk_W_arrives_0 : z_blk 36 0 = [(2, 0, 0, 0, 0), (17, 5, 6, 27, 1), (0, 1, 0, 0, 4), (5, 1, 0, 0, 5), (64, 35, 3, 121, 6), (10, 2, 0, 0, 9), (2, 0, 0, 0, 10), (17, 5, 5, 20, 11), (0, 2, 0, 0, 14), (34, 0, 0, 0, 15), (16, 2, 3, 97, 16), (5, 2, 0, 0, 19), (42, 48, 23, 0, 20)] := rfl
theorem zk_W_arrives_23 : z_blk 36 23 = [(2, 0, 0, 0, 23), (17, 5, 4, 15, 24), (0, 2, 0, 0, 27), (32, 0, 0, 0, 28), (5, 1, 0, 0, 29), (2, 0, 0, 0, 30), (17, 5, 6, 27, 31), (0, 1, 0, 0, 34), (5, 0, 0, 0, 35), (64, 35, 3, 121, 36), (26, 0, 0, 0, 39), (23, 0, 0, 0, 40), (48, 48, 44, 0, 41)] := rfl
theorem zk_W_arrives_44 : z_blk 36 44 = [(5, 1, 0, 0, 44), (54, 49, 0, 0, 45)] := rfl
theorem zk_W_arrives_48 : z_blk 36 48 = [(5, 0, 0, 0, 48), (55, 49, 0, 0, 49)] := rfl
theorem zk_W_arrives_49 : z_blk 36 49 = [(72, 0, 0, 0, 49)] := rfl
theorem ze_W_arrives (w0 w1 : Value) (G : zG) (M : zM) : z_call 36 [w0, w1] G M = z_ex 36 (z_blk 36 0) [w0, w1, .null] [] G M := rfl
theorem zr_W_arrives : z_rc 36 = 5 := rfl
theorem zk_W_handle_0 : z_blk 37 0 = [(2, 0, 0, 0, 0), (17, 5, 5, 20, 1), (2, 0, 0, 0, 4), (17, 5, 6, 27, 5), (0, 1, 0, 0, 8), (5, 1, 0, 0, 9), (64, 35, 3, 121, 10), (34, 0, 0, 0, 13), (12, 2, 0, 0, 14), (2, 0, 0, 0, 15), (17, 5, 6, 27, 16), (0, 1, 0, 0, 19), (5, 0, 0, 0, 20), (64, 35, 3, 121, 21), (10, 3, 0, 0, 24), (2, 0, 0, 0, 25), (17, 5, 6, 27, 26), (0, 1, 0, 0, 29), (5, 4, 0, 0, 30), (64, 35, 3, 121, 31), (11, 4, 0, 0, 34), (2, 0, 0, 0, 36), (17, 5, 6, 27, 37), (0, 1, 0, 0, 40), (5, 2, 0, 0, 41), (64, 35, 3, 121, 42), (11, 5, 0, 0, 45), (2, 0, 0, 0, 47), (17, 5, 6, 27, 48), (17, 1, 5, 147, 51), (1, 5, 0, 0, 54), (40, 0, 0, 0, 56), (32, 0, 0, 0, 57), (5, 1, 0, 0, 58), (20, 0, 0, 0, 59), (33, 0, 0, 0, 60), (1, 5, 0, 0, 61), (56, 0, 0, 41, 63)] := rfl
theorem zk_W_handle_104 : z_blk 37 104 = [(2, 0, 0, 0, 104), (2, 2, 0, 0, 105), (0, 3, 0, 0, 106), (1, 4, 0, 0, 107), (64, 38, 4, 150, 109), (54, 247, 0, 0, 112)] := rfl
theorem zk_W_handle_115 : z_blk 37 115 = [(2, 2, 0, 0, 115), (16, 2, 10, 100, 116), (5, 2, 0, 0, 119), (43, 247, 123, 0, 120)] := rfl
theorem zk_W_handle_123 : z_blk 37 123 = [(2, 2, 0, 0, 123), (39, 0, 0, 0, 124), (16, 2, 8, 154, 125), (5, 1, 0, 0, 128), (0, 3, 0, 0, 129), (26, 0, 0, 0, 130), (24, 0, 0, 0, 131), (18, 2, 8, 154, 132), (54, 247, 0, 0, 135)] := rfl
theorem zk_W_handle_138 : z_blk 37 138 = [(2, 0, 0, 0, 138), (2, 2, 0, 0, 139), (0, 3, 0, 0, 140), (1, 4, 0, 0, 141), (64, 41, 4, 157, 143), (54, 247, 0, 0, 146)] := rfl
theorem zk_W_handle_149 : z_blk 37 149 = [(2, 0, 0, 0, 149), (2, 2, 0, 0, 150), (0, 3, 0, 0, 151), (1, 4, 0, 0, 152), (64, 42, 4, 160, 154), (54, 247, 0, 0, 157)] := rfl
theorem zk_W_handle_160 : z_blk 37 160 = [(2, 2, 0, 0, 160), (16, 2, 10, 100, 161), (5, 5, 0, 0, 164), (43, 247, 168, 0, 165)] := rfl
theorem zk_W_handle_168 : z_blk 37 168 = [(2, 2, 0, 0, 168), (16, 2, 4, 163, 169), (0, 3, 0, 0, 172), (43, 247, 176, 0, 173)] := rfl
theorem zk_W_handle_176 : z_blk 37 176 = [(2, 0, 0, 0, 176), (2, 2, 0, 0, 177), (64, 15, 2, 75, 178), (54, 247, 0, 0, 181)] := rfl
theorem zk_W_handle_184 : z_blk 37 184 = [(2, 0, 0, 0, 184), (2, 2, 0, 0, 185), (2, 0, 0, 0, 186), (17, 5, 6, 27, 187), (0, 1, 0, 0, 190), (5, 5, 0, 0, 191), (64, 35, 3, 121, 192), (1, 4, 0, 0, 195), (64, 43, 4, 166, 197), (54, 247, 0, 0, 200)] := rfl
theorem zk_W_handle_203 : z_blk 37 203 = [(2, 2, 0, 0, 203), (16, 2, 10, 100, 204), (5, 4, 0, 0, 207), (43, 247, 211, 0, 208)] := rfl
theorem zk_W_handle_211 : z_blk 37 211 = [(2, 2, 0, 0, 211), (16, 2, 6, 169, 212), (1, 4, 0, 0, 215), (43, 247, 220, 0, 217)] := rfl
theorem zk_W_handle_220 : z_blk 37 220 = [(2, 2, 0, 0, 220), (39, 0, 0, 0, 221), (16, 2, 7, 172, 222), (5, 1, 0, 0, 225), (0, 3, 0, 0, 226), (26, 0, 0, 0, 227), (24, 0, 0, 0, 228), (18, 2, 7, 172, 229), (2, 0, 0, 0, 232), (2, 2, 0, 0, 233), (0, 1, 0, 0, 234), (64, 45, 3, 175, 235), (54, 247, 0, 0, 238)] := rfl
theorem zk_W_handle_241 : z_blk 37 241 = [(2, 0, 0, 0, 241), (2, 2, 0, 0, 242), (0, 1, 0, 0, 243), (64, 47, 3, 179, 244), (55, 247, 0, 0, 247)] := rfl
theorem zk_W_handle_247 : z_blk 37 247 = [(69, 0, 0, 0, 247)] := rfl
theorem ze_W_handle (w0 w1 : Value) (G : zG) (M : zM) : z_call 37 [w0, w1] G M = z_ex 37 (z_blk 37 0) [w0, w1, .null, .null, .null, .null] [] G M := rfl
theorem zr_W_handle : z_rc 37 = 5 := rfl
theorem zk_W_onAsk_0 : z_blk 38 0 = [(2, 1, 0, 0, 0), (64, 31, 1, 182, 1), (48, 19, 7, 0, 4)] := rfl
theorem zk_W_onAsk_7 : z_blk 38 7 = [(2, 0, 0, 0, 7), (2, 1, 0, 0, 8), (0, 2, 0, 0, 9), (5, 1, 0, 0, 10), (5, 4294967295, 0, 0, 11), (5, 4294967295, 0, 0, 12), (64, 39, 6, 186, 13), (54, 51, 0, 0, 16)] := rfl
theorem zk_W_onAsk_19 : z_blk 38 19 = [(2, 1, 0, 0, 19), (16, 2, 3, 97, 20), (49, 51, 26, 0, 23)] := rfl
theorem zk_W_onAsk_26 : z_blk 38 26 = [(2, 1, 0, 0, 26), (16, 2, 4, 163, 27), (0, 2, 0, 0, 30), (43, 51, 34, 0, 31)] := rfl
theorem zk_W_onAsk_34 : z_blk 38 34 = [(2, 1, 0, 0, 34), (16, 2, 6, 169, 35), (0, 3, 0, 0, 38), (43, 51, 42, 0, 39)] := rfl
theorem zk_W_onAsk_42 : z_blk 38 42 = [(2, 0, 0, 0, 42), (2, 1, 0, 0, 43), (0, 2, 0, 0, 44), (5, 3, 0, 0, 45), (0, 3, 0, 0, 46), (5, 4294967295, 0, 0, 47), (64, 39, 6, 186, 48), (55, 51, 0, 0, 51)] := rfl
theorem zk_W_onAsk_51 : z_blk 38 51 = [(69, 0, 0, 0, 51)] := rfl
theorem ze_W_onAsk (w0 w1 w2 w3 : Value) (G : zG) (M : zM) : z_call 38 [w0, w1, w2, w3] G M = z_ex 38 (z_blk 38 0) [w0, w1, w2, w3] [] G M := rfl
theorem zr_W_onAsk : z_rc 38 = 5 := rfl
theorem zk_W_send_0 : z_blk 39 0 = [(2, 0, 0, 0, 0), (17, 5, 6, 27, 1), (2, 1, 0, 0, 4), (0, 2, 0, 0, 5), (0, 3, 0, 0, 6), (2, 0, 0, 0, 7), (16, 5, 2, 48, 8), (2, 0, 0, 0, 11), (17, 5, 3, 9, 12), (5, 3, 0, 0, 15), (32, 0, 0, 0, 16), (20, 0, 0, 0, 17), (1, 4, 0, 0, 18), (1, 5, 0, 0, 20), (64, 40, 7, 231, 22), (69, 0, 0, 0, 25)] := rfl
theorem ze_W_send (w0 w1 w2 w3 w4 w5 : Value) (G : zG) (M : zM) : z_call 39 [w0, w1, w2, w3, w4, w5] G M = z_ex 39 (z_blk 39 0) [w0, w1, w2, w3, w4, w5] [] G M := rfl
theorem zr_W_send : z_rc 39 = 5 := rfl
theorem zk_A_add_0 : z_blk 40 0 = [(2, 0, 0, 0, 0), (17, 1, 4, 15, 1), (0, 3, 0, 0, 4), (40, 0, 0, 0, 5), (32, 0, 0, 0, 6), (5, 1, 0, 0, 7), (20, 0, 0, 0, 8), (33, 0, 0, 0, 9), (2, 0, 0, 0, 10), (16, 1, 1, 21, 11), (2, 0, 0, 0, 14), (16, 1, 2, 25, 15), (21, 0, 0, 0, 18), (7, 300, 0, 0, 19), (45, 35, 25, 0, 22)] := rfl
theorem zk_A_add_25 : z_blk 40 25 = [(2, 0, 0, 0, 25), (16, 1, 1, 21, 26), (7, 600, 0, 0, 29), (44, 46, 35, 0, 32)] := rfl
theorem zk_A_add_35 : z_blk 40 35 = [(2, 0, 0, 0, 35), (39, 0, 0, 0, 36), (16, 1, 3, 28, 37), (5, 1, 0, 0, 40), (20, 0, 0, 0, 41), (18, 1, 3, 28, 42), (69, 0, 0, 0, 45)] := rfl
theorem zk_A_add_46 : z_blk 40 46 = [(2, 0, 0, 0, 46), (16, 1, 1, 21, 47), (6, 12, 0, 0, 50), (22, 0, 0, 0, 52), (11, 7, 0, 0, 53), (2, 0, 0, 0, 55), (17, 1, 0, 9, 56), (1, 7, 0, 0, 59), (5, 0, 0, 0, 61), (20, 0, 0, 0, 62), (2, 1, 0, 0, 63), (16, 2, 0, 43, 64), (33, 0, 0, 0, 67), (2, 0, 0, 0, 68), (17, 1, 0, 9, 69), (1, 7, 0, 0, 72), (5, 1, 0, 0, 74), (20, 0, 0, 0, 75), (0, 2, 0, 0, 76), (33, 0, 0, 0, 77), (2, 0, 0, 0, 78), (17, 1, 0, 9, 79), (1, 7, 0, 0, 82), (5, 2, 0, 0, 84), (20, 0, 0, 0, 85), (0, 3, 0, 0, 86), (33, 0, 0, 0, 87), (2, 0, 0, 0, 88), (17, 1, 0, 9, 89), (1, 7, 0, 0, 92), (5, 3, 0, 0, 94), (20, 0, 0, 0, 95), (1, 4, 0, 0, 96), (33, 0, 0, 0, 98), (2, 0, 0, 0, 99), (17, 1, 0, 9, 100), (1, 7, 0, 0, 103), (5, 4, 0, 0, 105), (20, 0, 0, 0, 106), (1, 5, 0, 0, 107), (33, 0, 0, 0, 109), (2, 0, 0, 0, 110), (17, 1, 0, 9, 111), (1, 7, 0, 0, 114), (5, 5, 0, 0, 116), (20, 0, 0, 0, 117), (1, 6, 0, 0, 118), (33, 0, 0, 0, 120), (5, 0, 0, 0, 121), (11, 8, 0, 0, 122), (55, 124, 0, 0, 124)] := rfl
theorem zk_A_add_124 : z_blk 40 124 = [(1, 8, 0, 0, 124), (6, 6, 0, 0, 126), (45, 157, 131, 0, 128)] := rfl
theorem zk_A_add_131 : z_blk 40 131 = [(2, 0, 0, 0, 131), (17, 1, 0, 9, 132), (1, 7, 0, 0, 135), (6, 6, 0, 0, 137), (20, 0, 0, 0, 139), (1, 8, 0, 0, 140), (20, 0, 0, 0, 142), (2, 1, 0, 0, 143), (17, 2, 12, 48, 144), (1, 8, 0, 0, 147), (32, 0, 0, 0, 149), (33, 0, 0, 0, 150), (15, 8, 1, 0, 151), (54, 124, 0, 0, 154)] := rfl
theorem zk_A_add_157 : z_blk 40 157 = [(2, 0, 0, 0, 157), (39, 0, 0, 0, 158), (16, 1, 1, 21, 159), (5, 1, 0, 0, 162), (20, 0, 0, 0, 163), (18, 1, 1, 21, 164), (69, 0, 0, 0, 167)] := rfl
theorem ze_A_add (w0 w1 w2 w3 w4 w5 w6 : Value) (G : zG) (M : zM) : z_call 40 [w0, w1, w2, w3, w4, w5, w6] G M = z_ex 40 (z_blk 40 0) [w0, w1, w2, w3, w4, w5, w6, .null, .null] [] G M := rfl
theorem zr_A_add : z_rc 40 = 1 := rfl
theorem zk_W_onThere_0 : z_blk 41 0 = [(2, 1, 0, 0, 0), (64, 31, 1, 182, 1), (48, 38, 7, 0, 4)] := rfl
theorem zk_W_onThere_7 : z_blk 41 7 = [(2, 1, 0, 0, 7), (16, 2, 6, 169, 8), (0, 3, 0, 0, 11), (43, 38, 15, 0, 12)] := rfl
theorem zk_W_onThere_15 : z_blk 41 15 = [(2, 1, 0, 0, 15), (16, 2, 7, 172, 16), (5, 1, 0, 0, 19), (0, 2, 0, 0, 20), (26, 0, 0, 0, 21), (23, 0, 0, 0, 22), (48, 38, 26, 0, 23)] := rfl
theorem zk_W_onThere_26 : z_blk 41 26 = [(2, 0, 0, 0, 26), (2, 1, 0, 0, 27), (0, 2, 0, 0, 28), (5, 3, 0, 0, 29), (0, 3, 0, 0, 30), (5, 4294967295, 0, 0, 31), (64, 39, 6, 186, 32), (54, 47, 0, 0, 35)] := rfl
theorem zk_W_onThere_38 : z_blk 41 38 = [(2, 0, 0, 0, 38), (2, 1, 0, 0, 39), (0, 2, 0, 0, 40), (5, 4, 0, 0, 41), (5, 4294967295, 0, 0, 42), (5, 4294967295, 0, 0, 43), (64, 39, 6, 186, 44), (55, 47, 0, 0, 47)] := rfl
theorem zk_W_onThere_47 : z_blk 41 47 = [(69, 0, 0, 0, 47)] := rfl
theorem ze_W_onThere (w0 w1 w2 w3 : Value) (G : zG) (M : zM) : z_call 41 [w0, w1, w2, w3] G M = z_ex 41 (z_blk 41 0) [w0, w1, w2, w3] [] G M := rfl
theorem zr_W_onThere : z_rc 41 = 5 := rfl
theorem zk_W_onYes_0 : z_blk 42 0 = [(2, 1, 0, 0, 0), (16, 2, 6, 169, 1), (0, 3, 0, 0, 4), (42, 9, 8, 0, 5)] := rfl
theorem zk_W_onYes_8 : z_blk 42 8 = [(69, 0, 0, 0, 8)] := rfl
theorem zk_W_onYes_9 : z_blk 42 9 = [(2, 1, 0, 0, 9), (16, 2, 10, 100, 10), (5, 5, 0, 0, 13), (43, 40, 17, 0, 14)] := rfl
theorem zk_W_onYes_17 : z_blk 42 17 = [(2, 1, 0, 0, 17), (16, 2, 4, 163, 18), (0, 2, 0, 0, 21), (43, 40, 25, 0, 22)] := rfl
theorem zk_W_onYes_25 : z_blk 42 25 = [(2, 0, 0, 0, 25), (2, 1, 0, 0, 26), (5, 1, 0, 0, 27), (2, 0, 0, 0, 28), (17, 5, 3, 9, 29), (5, 0, 0, 0, 32), (32, 0, 0, 0, 33), (64, 19, 4, 190, 34), (54, 60, 0, 0, 37)] := rfl
theorem zk_W_onYes_40 : z_blk 42 40 = [(2, 1, 0, 0, 40), (16, 2, 10, 100, 41), (5, 2, 0, 0, 44), (43, 60, 48, 0, 45)] := rfl
theorem zk_W_onYes_48 : z_blk 42 48 = [(2, 1, 0, 0, 48), (39, 0, 0, 0, 49), (16, 2, 9, 193, 50), (5, 1, 0, 0, 53), (0, 2, 0, 0, 54), (26, 0, 0, 0, 55), (24, 0, 0, 0, 56), (18, 2, 9, 193, 57), (55, 60, 0, 0, 60)] := rfl
theorem zk_W_onYes_60 : z_blk 42 60 = [(69, 0, 0, 0, 60)] := rfl
theorem ze_W_onYes (w0 w1 w2 w3 : Value) (G : zG) (M : zM) : z_call 42 [w0, w1, w2, w3] G M = z_ex 42 (z_blk 42 0) [w0, w1, w2, w3] [] G M := rfl
theorem zr_W_onYes : z_rc 42 = 5 := rfl
theorem zk_W_onInvite_0 : z_blk 43 0 = [(2, 1, 0, 0, 0), (16, 2, 3, 97, 1), (49, 15, 7, 0, 4)] := rfl
theorem zk_W_onInvite_7 : z_blk 43 7 = [(2, 1, 0, 0, 7), (16, 2, 0, 196, 8), (0, 2, 0, 0, 11), (43, 16, 15, 0, 12)] := rfl
theorem zk_W_onInvite_15 : z_blk 43 15 = [(69, 0, 0, 0, 15)] := rfl
theorem zk_W_onInvite_16 : z_blk 43 16 = [(2, 1, 0, 0, 16), (64, 31, 1, 182, 17), (48, 41, 23, 0, 20)] := rfl
theorem zk_W_onInvite_23 : z_blk 43 23 = [(2, 0, 0, 0, 23), (2, 1, 0, 0, 24), (2, 1, 0, 0, 25), (16, 2, 7, 172, 26), (5, 1, 0, 0, 29), (0, 2, 0, 0, 30), (26, 0, 0, 0, 31), (5, 4294967295, 0, 0, 32), (25, 0, 0, 0, 33), (23, 0, 0, 0, 34), (5, 5, 0, 0, 35), (0, 3, 0, 0, 36), (0, 2, 0, 0, 37), (64, 44, 6, 199, 38), (55, 41, 0, 0, 41)] := rfl
theorem zk_W_onInvite_41 : z_blk 43 41 = [(2, 1, 0, 0, 41), (5, 1, 0, 0, 42), (18, 2, 3, 97, 43), (2, 1, 0, 0, 46), (0, 2, 0, 0, 47), (18, 2, 4, 163, 48), (2, 0, 0, 0, 51), (2, 1, 0, 0, 52), (0, 3, 0, 0, 53), (64, 16, 3, 202, 54), (2, 1, 0, 0, 57), (64, 17, 1, 205, 58), (2, 0, 0, 0, 61), (2, 1, 0, 0, 62), (0, 2, 0, 0, 63), (6, 6, 0, 0, 64), (0, 3, 0, 0, 66), (5, 4294967295, 0, 0, 67), (64, 39, 6, 186, 68), (2, 0, 0, 0, 71), (2, 1, 0, 0, 72), (6, 6, 0, 0, 73), (5, 3, 0, 0, 75), (2, 0, 0, 0, 76), (17, 5, 3, 9, 77), (5, 1, 0, 0, 80), (32, 0, 0, 0, 81), (22, 0, 0, 0, 82), (64, 19, 4, 190, 83), (2, 1, 0, 0, 86), (17, 2, 14, 115, 87), (5, 5, 0, 0, 90), (40, 0, 0, 0, 91), (32, 0, 0, 0, 92), (5, 1, 0, 0, 93), (20, 0, 0, 0, 94), (33, 0, 0, 0, 95), (69, 0, 0, 0, 96)] := rfl
theorem ze_W_onInvite (w0 w1 w2 w3 : Value) (G : zG) (M : zM) : z_call 43 [w0, w1, w2, w3] G M = z_ex 43 (z_blk 43 0) [w0, w1, w2, w3] [] G M := rfl
theorem zr_W_onInvite : z_rc 43 = 5 := rfl
theorem zk_W_sendToAll_0 : z_blk 44 0 = [(5, 0, 0, 0, 0), (11, 6, 0, 0, 1), (55, 3, 0, 0, 3)] := rfl
theorem zk_W_sendToAll_3 : z_blk 44 3 = [(1, 6, 0, 0, 3), (2, 0, 0, 0, 5), (16, 5, 0, 43, 6), (45, 62, 12, 0, 9)] := rfl
theorem zk_W_sendToAll_12 : z_blk 44 12 = [(1, 6, 0, 0, 12), (2, 1, 0, 0, 14), (16, 2, 0, 196, 15), (42, 56, 21, 0, 18)] := rfl
theorem zk_W_sendToAll_21 : z_blk 44 21 = [(0, 2, 0, 0, 21), (5, 1, 0, 0, 22), (1, 6, 0, 0, 23), (26, 0, 0, 0, 25), (23, 0, 0, 0, 26), (48, 56, 30, 0, 27)] := rfl
theorem zk_W_sendToAll_30 : z_blk 44 30 = [(2, 0, 0, 0, 30), (17, 5, 6, 27, 31), (2, 1, 0, 0, 34), (1, 6, 0, 0, 35), (0, 3, 0, 0, 37), (2, 0, 0, 0, 38), (16, 5, 2, 48, 39), (2, 0, 0, 0, 42), (17, 5, 3, 9, 43), (5, 3, 0, 0, 46), (32, 0, 0, 0, 47), (20, 0, 0, 0, 48), (1, 4, 0, 0, 49), (1, 5, 0, 0, 51), (64, 40, 7, 231, 53), (55, 56, 0, 0, 56)] := rfl
theorem zk_W_sendToAll_56 : z_blk 44 56 = [(15, 6, 1, 0, 56), (54, 3, 0, 0, 59)] := rfl
theorem zk_W_sendToAll_62 : z_blk 44 62 = [(69, 0, 0, 0, 62)] := rfl
theorem ze_W_sendToAll (w0 w1 w2 w3 w4 w5 : Value) (G : zG) (M : zM) : z_call 44 [w0, w1, w2, w3, w4, w5] G M = z_ex 44 (z_blk 44 0) [w0, w1, w2, w3, w4, w5, .null] [] G M := rfl
theorem zr_W_sendToAll : z_rc 44 = 5 := rfl
theorem zk_W_learn_0 : z_blk 45 0 = [(5, 0, 0, 0, 0), (10, 3, 0, 0, 1), (55, 2, 0, 0, 2)] := rfl
theorem zk_W_learn_2 : z_blk 45 2 = [(0, 3, 0, 0, 2), (2, 0, 0, 0, 3), (16, 5, 1, 47, 4), (45, 43, 10, 0, 7)] := rfl
theorem zk_W_learn_10 : z_blk 45 10 = [(2, 1, 0, 0, 10), (17, 2, 12, 208, 11), (0, 3, 0, 0, 14), (2, 1, 0, 0, 15), (17, 2, 12, 208, 16), (0, 3, 0, 0, 19), (32, 0, 0, 0, 20), (2, 0, 0, 0, 21), (17, 5, 6, 27, 22), (0, 2, 0, 0, 25), (6, 6, 0, 0, 26), (0, 3, 0, 0, 28), (20, 0, 0, 0, 29), (64, 35, 3, 121, 30), (63, 46, 2, 211, 33), (33, 0, 0, 0, 36), (15, 3, 1, 0, 37), (54, 2, 0, 0, 40)] := rfl
theorem zk_W_learn_43 : z_blk 45 43 = [(69, 0, 0, 0, 43)] := rfl
theorem ze_W_learn (w0 w1 w2 : Value) (G : zG) (M : zM) : z_call 45 [w0, w1, w2] G M = z_ex 45 (z_blk 45 0) [w0, w1, w2, .null] [] G M := rfl
theorem zr_W_learn : z_rc 45 = 5 := rfl
theorem zk_J_max_0 : z_blk 46 0 = [(0, 0, 0, 0, 0), (0, 1, 0, 0, 1), (44, 9, 5, 0, 2)] := rfl
theorem zk_J_max_5 : z_blk 46 5 = [(0, 0, 0, 0, 5), (54, 10, 0, 0, 6)] := rfl
theorem zk_J_max_9 : z_blk 46 9 = [(0, 1, 0, 0, 9), (55, 10, 0, 0, 10)] := rfl
theorem zk_J_max_10 : z_blk 46 10 = [(70, 0, 0, 0, 10)] := rfl
theorem ze_J_max (w0 w1 : Value) (G : zG) (M : zM) : z_call 46 [w0, w1] G M = z_ex 46 (z_blk 46 0) [w0, w1] [] G M := rfl
theorem zk_W_onReady_0 : z_blk 47 0 = [(2, 1, 0, 0, 0), (16, 2, 10, 100, 1), (6, 6, 0, 0, 4), (43, 72, 9, 0, 6)] := rfl
theorem zk_W_onReady_9 : z_blk 47 9 = [(2, 1, 0, 0, 9), (16, 2, 6, 169, 10), (2, 0, 0, 0, 13), (17, 5, 6, 27, 14), (0, 2, 0, 0, 17), (5, 4, 0, 0, 18), (64, 35, 3, 121, 19), (43, 72, 25, 0, 22)] := rfl
theorem zk_W_onReady_25 : z_blk 47 25 = [(2, 1, 0, 0, 25), (2, 0, 0, 0, 26), (17, 5, 6, 27, 27), (0, 2, 0, 0, 30), (5, 5, 0, 0, 31), (64, 35, 3, 121, 32), (18, 2, 7, 172, 35), (2, 0, 0, 0, 38), (2, 1, 0, 0, 39), (0, 2, 0, 0, 40), (64, 45, 3, 175, 41), (2, 1, 0, 0, 44), (5, 0, 0, 0, 45), (18, 2, 3, 97, 46), (2, 0, 0, 0, 49), (2, 1, 0, 0, 50), (5, 1, 0, 0, 51), (2, 0, 0, 0, 52), (17, 5, 3, 9, 53), (5, 0, 0, 0, 56), (32, 0, 0, 0, 57), (64, 19, 4, 190, 58), (2, 1, 0, 0, 61), (17, 2, 14, 115, 62), (6, 6, 0, 0, 65), (40, 0, 0, 0, 67), (32, 0, 0, 0, 68), (5, 1, 0, 0, 69), (20, 0, 0, 0, 70), (33, 0, 0, 0, 71), (55, 72, 0, 0, 72)] := rfl
theorem zk_W_onReady_72 : z_blk 47 72 = [(69, 0, 0, 0, 72)] := rfl
theorem ze_W_onReady (w0 w1 w2 : Value) (G : zG) (M : zM) : z_call 47 [w0, w1, w2] G M = z_ex 47 (z_blk 47 0) [w0, w1, w2] [] G M := rfl
theorem zr_W_onReady : z_rc 47 = 5 := rfl
theorem zk_A_dropDue_0 : z_blk 48 0 = [(2, 0, 0, 0, 0), (16, 1, 2, 25, 1), (49, 8, 7, 0, 4)] := rfl
theorem zk_A_dropDue_7 : z_blk 48 7 = [(69, 0, 0, 0, 7)] := rfl
theorem zk_A_dropDue_8 : z_blk 48 8 = [(5, 0, 0, 0, 8), (10, 2, 0, 0, 9), (5, 0, 0, 0, 10), (10, 3, 0, 0, 11), (55, 12, 0, 0, 12)] := rfl
theorem zk_A_dropDue_12 : z_blk 48 12 = [(0, 3, 0, 0, 12), (2, 0, 0, 0, 13), (16, 1, 1, 21, 14), (45, 65, 20, 0, 17)] := rfl
theorem zk_A_dropDue_20 : z_blk 48 20 = [(2, 0, 0, 0, 20), (0, 3, 0, 0, 21), (5, 3, 0, 0, 22), (64, 35, 3, 51, 23), (0, 1, 0, 0, 26), (42, 59, 30, 0, 27)] := rfl
theorem zk_A_dropDue_30 : z_blk 48 30 = [(0, 2, 0, 0, 30), (0, 3, 0, 0, 31), (45, 56, 35, 0, 32)] := rfl
theorem zk_A_dropDue_35 : z_blk 48 35 = [(2, 0, 0, 0, 35), (17, 1, 0, 9, 36), (0, 3, 0, 0, 39), (6, 12, 0, 0, 40), (22, 0, 0, 0, 42), (2, 0, 0, 0, 43), (17, 1, 0, 9, 44), (0, 2, 0, 0, 47), (6, 12, 0, 0, 48), (22, 0, 0, 0, 50), (6, 12, 0, 0, 51), (80, 0, 0, 37, 53), (55, 56, 0, 0, 56)] := rfl
theorem zk_A_dropDue_56 : z_blk 48 56 = [(15, 2, 1, 0, 56), (55, 59, 0, 0, 59)] := rfl
theorem zk_A_dropDue_59 : z_blk 48 59 = [(15, 3, 1, 0, 59), (54, 12, 0, 0, 62)] := rfl
theorem zk_A_dropDue_65 : z_blk 48 65 = [(2, 0, 0, 0, 65), (0, 2, 0, 0, 66), (18, 1, 1, 21, 67), (2, 0, 0, 0, 70), (5, 0, 0, 0, 71), (18, 1, 2, 25, 72), (69, 0, 0, 0, 75)] := rfl
theorem ze_A_dropDue (w0 w1 : Value) (G : zG) (M : zM) : z_call 48 [w0, w1] G M = z_ex 48 (z_blk 48 0) [w0, w1, .null, .null] [] G M := rfl
theorem zr_A_dropDue : z_rc 48 = 1 := rfl
theorem zk_W_wake_0 : z_blk 49 0 = [(2, 1, 0, 0, 0), (16, 2, 10, 100, 1), (56, 1, 0, 32, 4)] := rfl
theorem zk_W_wake_36 : z_blk 49 36 = [(2, 0, 0, 0, 36), (2, 1, 0, 0, 37), (64, 50, 2, 216, 38), (54, 128, 0, 0, 41)] := rfl
theorem zk_W_wake_44 : z_blk 49 44 = [(2, 0, 0, 0, 44), (2, 1, 0, 0, 45), (64, 51, 2, 219, 46), (2, 1, 0, 0, 49), (16, 2, 10, 100, 50), (5, 3, 0, 0, 53), (43, 128, 57, 0, 54)] := rfl
theorem zk_W_wake_57 : z_blk 49 57 = [(2, 1, 0, 0, 57), (16, 2, 11, 141, 58), (2, 0, 0, 0, 61), (16, 5, 2, 48, 62), (43, 128, 68, 0, 65)] := rfl
theorem zk_W_wake_68 : z_blk 49 68 = [(2, 0, 0, 0, 68), (2, 1, 0, 0, 69), (64, 52, 2, 222, 70), (54, 128, 0, 0, 73)] := rfl
theorem zk_W_wake_76 : z_blk 49 76 = [(2, 0, 0, 0, 76), (2, 1, 0, 0, 77), (64, 52, 2, 222, 78), (54, 128, 0, 0, 81)] := rfl
theorem zk_W_wake_84 : z_blk 49 84 = [(2, 1, 0, 0, 84), (5, 0, 0, 0, 85), (18, 2, 3, 97, 86), (2, 0, 0, 0, 89), (2, 1, 0, 0, 90), (2, 1, 0, 0, 91), (16, 2, 7, 172, 92), (6, 7, 0, 0, 95), (2, 1, 0, 0, 97), (16, 2, 6, 169, 98), (2, 1, 0, 0, 101), (16, 2, 7, 172, 102), (64, 44, 6, 199, 105), (2, 0, 0, 0, 108), (2, 1, 0, 0, 109), (5, 1, 0, 0, 110), (2, 0, 0, 0, 111), (17, 5, 3, 9, 112), (5, 0, 0, 0, 115), (32, 0, 0, 0, 116), (64, 19, 4, 190, 117), (54, 128, 0, 0, 120)] := rfl
theorem zk_W_wake_123 : z_blk 49 123 = [(2, 0, 0, 0, 123), (2, 1, 0, 0, 124), (64, 15, 2, 75, 125), (55, 128, 0, 0, 128)] := rfl
theorem zk_W_wake_128 : z_blk 49 128 = [(69, 0, 0, 0, 128)] := rfl
theorem ze_W_wake (w0 w1 : Value) (G : zG) (M : zM) : z_call 49 [w0, w1] G M = z_ex 49 (z_blk 49 0) [w0, w1] [] G M := rfl
theorem zr_W_wake : z_rc 49 = 5 := rfl
theorem zk_W_look_0 : z_blk 50 0 = [(2, 1, 0, 0, 0), (16, 2, 4, 163, 1), (2, 1, 0, 0, 4), (16, 2, 0, 196, 5), (43, 51, 11, 0, 8)] := rfl
theorem zk_W_look_11 : z_blk 50 11 = [(2, 1, 0, 0, 11), (5, 0, 0, 0, 12), (18, 2, 8, 154, 13), (2, 1, 0, 0, 16), (5, 0, 0, 0, 17), (18, 2, 9, 193, 18), (2, 0, 0, 0, 21), (2, 1, 0, 0, 22), (2, 0, 0, 0, 23), (64, 12, 1, 88, 24), (5, 0, 0, 0, 27), (2, 1, 0, 0, 28), (16, 2, 6, 169, 29), (5, 4294967295, 0, 0, 32), (64, 44, 6, 199, 33), (2, 0, 0, 0, 36), (2, 1, 0, 0, 37), (5, 2, 0, 0, 38), (2, 0, 0, 0, 39), (17, 5, 3, 9, 40), (5, 1, 0, 0, 43), (32, 0, 0, 0, 44), (64, 19, 4, 190, 45), (54, 78, 0, 0, 48)] := rfl
theorem zk_W_look_51 : z_blk 50 51 = [(2, 0, 0, 0, 51), (2, 1, 0, 0, 52), (2, 1, 0, 0, 53), (16, 2, 4, 163, 54), (5, 2, 0, 0, 57), (2, 1, 0, 0, 58), (16, 2, 6, 169, 59), (5, 4294967295, 0, 0, 62), (64, 39, 6, 186, 63), (2, 0, 0, 0, 66), (2, 1, 0, 0, 67), (5, 5, 0, 0, 68), (2, 0, 0, 0, 69), (17, 5, 3, 9, 70), (5, 1, 0, 0, 73), (32, 0, 0, 0, 74), (64, 19, 4, 190, 75), (55, 78, 0, 0, 78)] := rfl
theorem zk_W_look_78 : z_blk 50 78 = [(69, 0, 0, 0, 78)] := rfl
theorem ze_W_look (w0 w1 : Value) (G : zG) (M : zM) : z_call 50 [w0, w1] G M = z_ex 50 (z_blk 50 0) [w0, w1] [] G M := rfl
theorem zr_W_look : z_rc 50 = 5 := rfl
theorem zk_W_weigh_0 : z_blk 51 0 = [(2, 1, 0, 0, 0), (16, 2, 8, 154, 1), (49, 43, 7, 0, 4)] := rfl
theorem zk_W_weigh_7 : z_blk 51 7 = [(2, 1, 0, 0, 7), (16, 2, 7, 172, 8), (2, 1, 0, 0, 11), (64, 18, 1, 225, 12), (5, 4294967295, 0, 0, 15), (25, 0, 0, 0, 16), (23, 0, 0, 0, 17), (2, 1, 0, 0, 18), (16, 2, 9, 193, 19), (5, 4294967295, 0, 0, 22), (25, 0, 0, 0, 23), (23, 0, 0, 0, 24), (49, 43, 28, 0, 25)] := rfl
theorem zk_W_weigh_28 : z_blk 51 28 = [(2, 0, 0, 0, 28), (2, 1, 0, 0, 29), (5, 1, 0, 0, 30), (2, 0, 0, 0, 31), (17, 5, 3, 9, 32), (5, 0, 0, 0, 35), (32, 0, 0, 0, 36), (64, 19, 4, 190, 37), (54, 68, 0, 0, 40)] := rfl
theorem zk_W_weigh_43 : z_blk 51 43 = [(2, 0, 0, 0, 43), (2, 1, 0, 0, 44), (5, 3, 0, 0, 45), (2, 1, 0, 0, 46), (16, 2, 8, 154, 47), (2, 1, 0, 0, 50), (16, 2, 2, 71, 51), (23, 0, 0, 0, 54), (63, 13, 1, 91, 55), (2, 0, 0, 0, 58), (17, 5, 3, 9, 59), (5, 2, 0, 0, 62), (32, 0, 0, 0, 63), (22, 0, 0, 0, 64), (64, 19, 4, 190, 65), (55, 68, 0, 0, 68)] := rfl
theorem zk_W_weigh_68 : z_blk 51 68 = [(69, 0, 0, 0, 68)] := rfl
theorem ze_W_weigh (w0 w1 : Value) (G : zG) (M : zM) : z_call 51 [w0, w1] G M = z_ex 51 (z_blk 51 0) [w0, w1] [] G M := rfl
theorem zr_W_weigh : z_rc 51 = 5 := rfl
theorem zk_W_merge_0 : z_blk 52 0 = [(2, 1, 0, 0, 0), (39, 0, 0, 0, 1), (16, 2, 5, 228, 2), (5, 1, 0, 0, 5), (20, 0, 0, 0, 6), (18, 2, 5, 228, 7), (2, 0, 0, 0, 10), (2, 1, 0, 0, 11), (6, 10, 0, 0, 12), (2, 1, 0, 0, 14), (16, 2, 5, 228, 15), (22, 0, 0, 0, 18), (2, 1, 0, 0, 19), (16, 2, 0, 196, 20), (20, 0, 0, 0, 23), (64, 16, 3, 202, 24), (2, 1, 0, 0, 27), (5, 1, 0, 0, 28), (18, 2, 3, 97, 29), (2, 0, 0, 0, 32), (2, 1, 0, 0, 33), (2, 1, 0, 0, 34), (16, 2, 8, 154, 35), (2, 1, 0, 0, 38), (16, 2, 7, 172, 39), (24, 0, 0, 0, 42), (5, 5, 0, 0, 43), (2, 1, 0, 0, 44), (16, 2, 6, 169, 45), (2, 1, 0, 0, 48), (16, 2, 0, 196, 49), (64, 44, 6, 199, 52), (2, 1, 0, 0, 55), (64, 17, 1, 205, 56), (2, 0, 0, 0, 59), (2, 1, 0, 0, 60), (5, 4, 0, 0, 61), (5, 2, 0, 0, 62), (2, 0, 0, 0, 63), (17, 5, 3, 9, 64), (5, 1, 0, 0, 67), (32, 0, 0, 0, 68), (22, 0, 0, 0, 69), (64, 19, 4, 190, 70), (2, 1, 0, 0, 73), (17, 2, 14, 115, 74), (5, 4, 0, 0, 77), (40, 0, 0, 0, 78), (32, 0, 0, 0, 79), (5, 1, 0, 0, 80), (20, 0, 0, 0, 81), (33, 0, 0, 0, 82), (69, 0, 0, 0, 83)] := rfl
theorem ze_W_merge (w0 w1 : Value) (G : zG) (M : zM) : z_call 52 [w0, w1] G M = z_ex 52 (z_blk 52 0) [w0, w1] [] G M := rfl
theorem zr_W_merge : z_rc 52 = 5 := rfl
theorem zk_S_isOne_0 : z_blk 53 0 = [(5, 0, 0, 0, 0), (10, 1, 0, 0, 1), (55, 2, 0, 0, 2)] := rfl
theorem zk_S_isOne_2 : z_blk 53 2 = [(0, 1, 0, 0, 2), (2, 0, 0, 0, 3), (16, 5, 0, 9, 4), (45, 31, 10, 0, 7)] := rfl
theorem zk_S_isOne_10 : z_blk 53 10 = [(2, 0, 0, 0, 10), (17, 5, 5, 15, 11), (0, 1, 0, 0, 14), (34, 0, 0, 0, 15), (16, 2, 3, 19, 16), (5, 1, 0, 0, 19), (43, 25, 23, 0, 20)] := rfl
theorem zk_S_isOne_23 : z_blk 53 23 = [(5, 0, 0, 0, 23), (72, 0, 0, 0, 24)] := rfl
theorem zk_S_isOne_25 : z_blk 53 25 = [(15, 1, 1, 0, 25), (54, 2, 0, 0, 28)] := rfl
theorem zk_S_isOne_31 : z_blk 53 31 = [(5, 0, 0, 0, 31), (10, 1, 0, 0, 32), (55, 33, 0, 0, 33)] := rfl
theorem zk_S_isOne_33 : z_blk 53 33 = [(0, 1, 0, 0, 33), (2, 0, 0, 0, 34), (16, 5, 0, 9, 35), (45, 87, 41, 0, 38)] := rfl
theorem zk_S_isOne_41 : z_blk 53 41 = [(2, 0, 0, 0, 41), (17, 5, 5, 15, 42), (0, 1, 0, 0, 45), (34, 0, 0, 0, 46), (12, 2, 0, 0, 47), (2, 2, 0, 0, 48), (16, 2, 3, 19, 49), (49, 81, 55, 0, 52)] := rfl
theorem zk_S_isOne_55 : z_blk 53 55 = [(2, 2, 0, 0, 55), (16, 2, 7, 48, 56), (2, 0, 0, 0, 59), (0, 1, 0, 0, 60), (63, 54, 2, 45, 61), (43, 79, 67, 0, 64)] := rfl
theorem zk_S_isOne_67 : z_blk 53 67 = [(2, 2, 0, 0, 67), (16, 2, 7, 48, 68), (2, 0, 0, 0, 71), (0, 1, 0, 0, 72), (63, 55, 2, 37, 73), (42, 81, 79, 0, 76)] := rfl
theorem zk_S_isOne_79 : z_blk 53 79 = [(5, 0, 0, 0, 79), (72, 0, 0, 0, 80)] := rfl
theorem zk_S_isOne_81 : z_blk 53 81 = [(15, 1, 1, 0, 81), (54, 33, 0, 0, 84)] := rfl
theorem zk_S_isOne_87 : z_blk 53 87 = [(5, 1, 0, 0, 87), (72, 0, 0, 0, 88)] := rfl
theorem ze_S_isOne (w0 : Value) (G : zG) (M : zM) : z_call 53 [w0] G M = z_ex 53 (z_blk 53 0) [w0, .null, .null] [] G M := rfl
theorem zk_S_circleOf_0 : z_blk 54 0 = [(5, 0, 0, 0, 0), (10, 2, 0, 0, 1), (2, 0, 0, 0, 2), (17, 5, 5, 15, 3), (0, 1, 0, 0, 6), (34, 0, 0, 0, 7), (16, 2, 3, 19, 8), (49, 69, 14, 0, 11)] := rfl
theorem zk_S_circleOf_14 : z_blk 54 14 = [(5, 0, 0, 0, 14), (10, 3, 0, 0, 15), (55, 16, 0, 0, 16)] := rfl
theorem zk_S_circleOf_16 : z_blk 54 16 = [(0, 3, 0, 0, 16), (2, 0, 0, 0, 17), (16, 5, 0, 9, 18), (45, 69, 24, 0, 21)] := rfl
theorem zk_S_circleOf_24 : z_blk 54 24 = [(2, 0, 0, 0, 24), (17, 5, 5, 15, 25), (0, 3, 0, 0, 28), (34, 0, 0, 0, 29), (13, 4, 0, 0, 30), (3, 4, 0, 0, 32), (16, 2, 3, 19, 34), (49, 63, 40, 0, 37)] := rfl
theorem zk_S_circleOf_40 : z_blk 54 40 = [(3, 4, 0, 0, 40), (16, 2, 6, 34, 42), (2, 0, 0, 0, 45), (17, 5, 5, 15, 46), (0, 1, 0, 0, 49), (34, 0, 0, 0, 50), (16, 2, 6, 34, 51), (43, 63, 57, 0, 54)] := rfl
theorem zk_S_circleOf_57 : z_blk 54 57 = [(0, 2, 0, 0, 57), (5, 1, 0, 0, 58), (0, 3, 0, 0, 59), (26, 0, 0, 0, 60), (24, 0, 0, 0, 61), (10, 2, 0, 0, 62), (55, 63, 0, 0, 63)] := rfl
theorem zk_S_circleOf_63 : z_blk 54 63 = [(15, 3, 1, 0, 63), (54, 16, 0, 0, 66)] := rfl
theorem zk_S_circleOf_69 : z_blk 54 69 = [(0, 2, 0, 0, 69), (70, 0, 0, 0, 70)] := rfl
theorem ze_S_circleOf (w0 w1 : Value) (G : zG) (M : zM) : z_call 54 [w0, w1] G M = z_ex 54 (z_blk 54 0) [w0, w1, .null, .null, .null] [] G M := rfl
theorem zk_S_setOf_0 : z_blk 55 0 = [(2, 0, 0, 0, 0), (63, 56, 1, 24, 1), (10, 2, 0, 0, 4), (0, 2, 0, 0, 5), (5, 1, 0, 0, 6), (0, 1, 0, 0, 7), (26, 0, 0, 0, 8), (23, 0, 0, 0, 9), (10, 3, 0, 0, 10), (5, 0, 0, 0, 11), (11, 4, 0, 0, 12), (55, 14, 0, 0, 14)] := rfl
theorem zk_S_setOf_14 : z_blk 55 14 = [(1, 4, 0, 0, 14), (2, 0, 0, 0, 16), (16, 5, 0, 9, 17), (45, 85, 23, 0, 20)] := rfl
theorem zk_S_setOf_23 : z_blk 55 23 = [(0, 3, 0, 0, 23), (11, 5, 0, 0, 24), (5, 0, 0, 0, 26), (11, 6, 0, 0, 27), (55, 29, 0, 0, 29)] := rfl
theorem zk_S_setOf_29 : z_blk 55 29 = [(1, 6, 0, 0, 29), (2, 0, 0, 0, 31), (16, 5, 0, 9, 32), (45, 67, 38, 0, 35)] := rfl
theorem zk_S_setOf_38 : z_blk 55 38 = [(0, 3, 0, 0, 38), (5, 1, 0, 0, 39), (1, 6, 0, 0, 40), (26, 0, 0, 0, 42), (23, 0, 0, 0, 43), (48, 61, 47, 0, 44)] := rfl
theorem zk_S_setOf_47 : z_blk 55 47 = [(1, 5, 0, 0, 47), (2, 0, 0, 0, 49), (17, 5, 4, 30, 50), (1, 6, 0, 0, 53), (32, 0, 0, 0, 55), (0, 2, 0, 0, 56), (23, 0, 0, 0, 57), (24, 0, 0, 0, 58), (11, 5, 0, 0, 59), (55, 61, 0, 0, 61)] := rfl
theorem zk_S_setOf_61 : z_blk 55 61 = [(15, 6, 1, 0, 61), (54, 29, 0, 0, 64)] := rfl
theorem zk_S_setOf_67 : z_blk 55 67 = [(1, 5, 0, 0, 67), (0, 3, 0, 0, 69), (43, 76, 73, 0, 70)] := rfl
theorem zk_S_setOf_73 : z_blk 55 73 = [(54, 85, 0, 0, 73)] := rfl
theorem zk_S_setOf_76 : z_blk 55 76 = [(1, 5, 0, 0, 76), (10, 3, 0, 0, 78), (15, 4, 1, 0, 79), (54, 14, 0, 0, 82)] := rfl
theorem zk_S_setOf_85 : z_blk 55 85 = [(0, 3, 0, 0, 85), (70, 0, 0, 0, 86)] := rfl
theorem ze_S_setOf (w0 w1 : Value) (G : zG) (M : zM) : z_call 55 [w0, w1] G M = z_ex 55 (z_blk 55 0) [w0, w1, .null, .null, .null, .null, .null] [] G M := rfl
theorem zk_S_awake_0 : z_blk 56 0 = [(5, 0, 0, 0, 0), (10, 1, 0, 0, 1), (5, 0, 0, 0, 2), (10, 2, 0, 0, 3), (55, 4, 0, 0, 4)] := rfl
theorem zk_S_awake_4 : z_blk 56 4 = [(0, 2, 0, 0, 4), (2, 0, 0, 0, 5), (16, 5, 0, 9, 6), (45, 37, 12, 0, 9)] := rfl
theorem zk_S_awake_12 : z_blk 56 12 = [(2, 0, 0, 0, 12), (17, 5, 5, 15, 13), (0, 2, 0, 0, 16), (34, 0, 0, 0, 17), (16, 2, 3, 19, 18), (5, 2, 0, 0, 21), (42, 31, 25, 0, 22)] := rfl
theorem zk_S_awake_25 : z_blk 56 25 = [(0, 1, 0, 0, 25), (5, 1, 0, 0, 26), (0, 2, 0, 0, 27), (26, 0, 0, 0, 28), (24, 0, 0, 0, 29), (10, 1, 0, 0, 30), (55, 31, 0, 0, 31)] := rfl
theorem zk_S_awake_31 : z_blk 56 31 = [(15, 2, 1, 0, 31), (54, 4, 0, 0, 34)] := rfl
theorem zk_S_awake_37 : z_blk 56 37 = [(0, 1, 0, 0, 37), (70, 0, 0, 0, 38)] := rfl
theorem ze_S_awake (w0 : Value) (G : zG) (M : zM) : z_call 56 [w0] G M = z_ex 56 (z_blk 56 0) [w0, .null, .null] [] G M := rfl
theorem zk_C_print_0 : z_blk 57 0 = [(62, 0, 0, 0, 0), (14, 1, 0, 0, 1), (5, 0, 0, 0, 2), (10, 3, 0, 0, 3), (55, 4, 0, 0, 4)] := rfl
theorem zk_C_print_4 : z_blk 57 4 = [(0, 3, 0, 0, 4), (2, 0, 0, 0, 5), (17, 6, 5, 30, 6), (16, 5, 0, 84, 9), (45, 71, 15, 0, 12)] := rfl
theorem zk_C_print_15 : z_blk 57 15 = [(2, 0, 0, 0, 15), (17, 6, 5, 30, 16), (17, 5, 5, 108, 19), (0, 3, 0, 0, 22), (34, 0, 0, 0, 23), (13, 4, 0, 0, 24), (61, 31, 0, 305, 26), (4, 1, 0, 0, 29), (59, 0, 0, 0, 30), (3, 4, 0, 0, 31), (16, 2, 6, 136, 33), (57, 0, 0, 0, 36), (58, 0, 0, 0, 37), (14, 1, 0, 0, 38), (61, 31, 0, 305, 39), (4, 1, 0, 0, 42), (59, 0, 0, 0, 43), (3, 4, 0, 0, 44), (16, 2, 7, 200, 46), (57, 0, 0, 0, 49), (58, 0, 0, 0, 50), (14, 1, 0, 0, 51), (61, 31, 0, 305, 52), (4, 1, 0, 0, 55), (59, 0, 0, 0, 56), (3, 4, 0, 0, 57), (16, 2, 10, 206, 59), (57, 0, 0, 0, 62), (58, 0, 0, 0, 63), (14, 1, 0, 0, 64), (15, 3, 1, 0, 65), (54, 4, 0, 0, 68)] := rfl
theorem zk_C_print_71 : z_blk 57 71 = [(4, 1, 0, 0, 71), (71, 0, 0, 0, 72)] := rfl
theorem ze_C_print (w0 : Value) (G : zG) (M : zM) : z_call 57 [w0] G M = z_ex 57 (z_blk 57 0) [w0, .null, .null, .null, .null] [] G M := rfl
theorem zr_C_print : z_rc 57 = 6 := rfl
theorem zk_C_status_0 : z_blk 58 0 = [(0, 1, 0, 0, 0), (50, 22, 4, 0, 1)] := rfl
theorem zk_C_status_4 : z_blk 58 4 = [(0, 1, 0, 0, 4), (2, 0, 0, 0, 5), (17, 6, 3, 17, 6), (36, 0, 0, 0, 9), (45, 22, 13, 0, 10)] := rfl
theorem zk_C_status_13 : z_blk 58 13 = [(2, 0, 0, 0, 13), (17, 6, 3, 17, 14), (0, 1, 0, 0, 17), (32, 0, 0, 0, 18), (54, 23, 0, 0, 19)] := rfl
theorem zk_C_status_22 : z_blk 58 22 = [(5, 4294967295, 0, 0, 22), (55, 23, 0, 0, 23)] := rfl
theorem zk_C_status_23 : z_blk 58 23 = [(70, 0, 0, 0, 23)] := rfl
theorem ze_C_status (w0 w1 : Value) (G : zG) (M : zM) : z_call 58 [w0, w1] G M = z_ex 58 (z_blk 58 0) [w0, w1] [] G M := rfl
theorem zr_C_status : z_rc 58 = 6 := rfl
theorem zk_L_text_0 : z_blk 59 0 = [(2, 2, 0, 0, 0), (5, 0, 0, 0, 1), (2, 0, 0, 0, 2), (0, 1, 0, 0, 3), (64, 60, 2, 7, 4), (57, 0, 0, 0, 7), (38, 0, 0, 0, 8), (54, 15, 0, 0, 9)] := rfl
theorem zk_L_text_13 : z_blk 59 13 = [(5, 1, 0, 0, 13), (70, 0, 0, 0, 14)] := rfl
theorem zk_L_text_15 : z_blk 59 15 = [(5, 0, 0, 0, 15), (70, 0, 0, 0, 16)] := rfl
theorem ze_L_text (w0 w1 w2 : Value) (G : zG) (M : zM) : z_call 59 [w0, w1, w2] G M = z_ex 59 (z_blk 59 0) [w0, w1, w2, .null] [] G M := rfl
theorem zk_C_text_0 : z_blk 60 0 = [(2, 0, 0, 0, 0), (0, 1, 0, 0, 1), (50, 17, 5, 0, 2)] := rfl
theorem zk_C_text_5 : z_blk 60 5 = [(0, 1, 0, 0, 5), (2, 0, 0, 0, 6), (16, 6, 1, 59, 7), (46, 17, 13, 0, 10)] := rfl
theorem zk_C_text_13 : z_blk 60 13 = [(5, 1, 0, 0, 13), (54, 18, 0, 0, 14)] := rfl
theorem zk_C_text_17 : z_blk 60 17 = [(5, 0, 0, 0, 17), (55, 18, 0, 0, 18)] := rfl
theorem zk_C_text_18 : z_blk 60 18 = [(64, 61, 2, 65, 18), (2, 0, 0, 0, 21), (5, 0, 0, 0, 22), (18, 6, 1, 59, 23), (2, 0, 0, 0, 26), (17, 6, 4, 23, 27), (2, 0, 0, 0, 30), (17, 6, 0, 9, 31), (0, 1, 0, 0, 34), (64, 62, 3, 69, 35), (49, 63, 41, 0, 38)] := rfl
theorem zk_C_text_41 : z_blk 60 41 = [(2, 0, 0, 0, 41), (2, 0, 0, 0, 42), (17, 6, 4, 23, 43), (16, 4, 2, 73, 46), (18, 6, 2, 13, 49), (2, 0, 0, 0, 52), (17, 6, 4, 23, 53), (16, 4, 1, 74, 56), (6, 10, 0, 0, 59), (21, 0, 0, 0, 61), (70, 0, 0, 0, 62)] := rfl
theorem zk_C_text_63 : z_blk 60 63 = [(2, 0, 0, 0, 63), (5, 4294967295, 0, 0, 64), (18, 6, 2, 13, 65), (2, 0, 0, 0, 68), (5, 0, 0, 0, 69), (18, 6, 9, 77, 70), (2, 0, 0, 0, 73), (17, 6, 5, 30, 74), (2, 0, 0, 0, 77), (17, 6, 4, 23, 78), (17, 4, 0, 80, 81), (64, 8, 2, 55, 84), (2, 0, 0, 0, 87), (17, 6, 5, 30, 88), (16, 5, 0, 84, 91), (70, 0, 0, 0, 94)] := rfl
theorem ze_C_text (w0 w1 : Value) (G : zG) (M : zM) : z_call 60 [w0, w1] G M = z_ex 60 (z_blk 60 0) [w0, w1] [] G M := rfl
theorem zr_C_text : z_rc 60 = 6 := rfl
theorem zk_C_needArgument_0 : z_blk 61 0 = [(0, 1, 0, 0, 0), (49, 25, 4, 0, 1)] := rfl
theorem zk_C_needArgument_4 : z_blk 61 4 = [(2, 0, 0, 0, 4), (17, 6, 3, 17, 5), (5, 1, 0, 0, 8), (40, 0, 0, 0, 9), (32, 0, 0, 0, 10), (5, 1, 0, 0, 11), (20, 0, 0, 0, 12), (33, 0, 0, 0, 13), (83, 1, 0, 0, 14)] := rfl
theorem zk_C_needArgument_25 : z_blk 61 25 = [(69, 0, 0, 0, 25)] := rfl
theorem ze_C_needArgument (w0 w1 : Value) (G : zG) (M : zM) : z_call 61 [w0, w1] G M = z_ex 61 (z_blk 61 0) [w0, w1] [] G M := rfl
theorem zr_C_needArgument : z_rc 61 = 6 := rfl
theorem zk_T_accepts_0 : z_blk 62 0 = [(2, 0, 0, 0, 0), (2, 1, 0, 0, 1), (19, 4, 3, 18, 2), (2, 0, 0, 0, 5), (0, 2, 0, 0, 6), (2, 1, 0, 0, 7), (36, 0, 0, 0, 8), (63, 63, 2, 22, 9), (18, 4, 4, 28, 12), (2, 0, 0, 0, 15), (5, 0, 0, 0, 16), (18, 4, 5, 32, 17), (2, 0, 0, 0, 20), (5, 0, 0, 0, 21), (18, 4, 8, 35, 22), (2, 0, 0, 0, 25), (64, 64, 1, 38, 26), (49, 34, 32, 0, 29)] := rfl
theorem zk_T_accepts_32 : z_blk 62 32 = [(5, 0, 0, 0, 32), (72, 0, 0, 0, 33)] := rfl
theorem zk_T_accepts_34 : z_blk 62 34 = [(2, 0, 0, 0, 34), (64, 65, 1, 42, 35), (55, 38, 0, 0, 38)] := rfl
theorem zk_T_accepts_38 : z_blk 62 38 = [(2, 0, 0, 0, 38), (16, 4, 5, 32, 39), (2, 0, 0, 0, 42), (16, 4, 4, 28, 43), (45, 72, 49, 0, 46)] := rfl
theorem zk_T_accepts_49 : z_blk 62 49 = [(2, 0, 0, 0, 49), (64, 72, 1, 45, 50), (48, 63, 56, 0, 53)] := rfl
theorem zk_T_accepts_56 : z_blk 62 56 = [(2, 0, 0, 0, 56), (64, 71, 1, 48, 57), (49, 65, 63, 0, 60)] := rfl
theorem zk_T_accepts_63 : z_blk 62 63 = [(5, 0, 0, 0, 63), (72, 0, 0, 0, 64)] := rfl
theorem zk_T_accepts_65 : z_blk 62 65 = [(2, 0, 0, 0, 65), (64, 65, 1, 42, 66), (54, 38, 0, 0, 69)] := rfl
theorem zk_T_accepts_72 : z_blk 62 72 = [(5, 1, 0, 0, 72), (72, 0, 0, 0, 73)] := rfl
theorem ze_T_accepts (w0 w1 w2 : Value) (G : zG) (M : zM) : z_call 62 [w0, w1, w2] G M = z_ex 62 (z_blk 62 0) [w0, w1, w2] [] G M := rfl
theorem zr_T_accepts : z_rc 62 = 4 := rfl
theorem zk_J_min_0 : z_blk 63 0 = [(0, 0, 0, 0, 0), (0, 1, 0, 0, 1), (46, 9, 5, 0, 2)] := rfl
theorem zk_J_min_5 : z_blk 63 5 = [(0, 0, 0, 0, 5), (54, 10, 0, 0, 6)] := rfl
theorem zk_J_min_9 : z_blk 63 9 = [(0, 1, 0, 0, 9), (55, 10, 0, 0, 10)] := rfl
theorem zk_J_min_10 : z_blk 63 10 = [(70, 0, 0, 0, 10)] := rfl
theorem ze_J_min (w0 w1 : Value) (G : zG) (M : zM) : z_call 63 [w0, w1] G M = z_ex 63 (z_blk 63 0) [w0, w1] [] G M := rfl
theorem zk_T_takeHead_0 : z_blk 64 0 = [(2, 0, 0, 0, 0), (64, 65, 1, 42, 1), (2, 0, 0, 0, 4), (64, 66, 1, 51, 5), (10, 1, 0, 0, 8), (2, 0, 0, 0, 9), (79, 6, 0, 55, 10), (0, 1, 0, 0, 12), (64, 67, 3, 57, 13), (49, 29, 19, 0, 16)] := rfl
theorem zk_T_takeHead_19 : z_blk 64 19 = [(2, 0, 0, 0, 19), (5, 1, 0, 0, 20), (2, 0, 0, 0, 21), (16, 4, 5, 32, 22), (64, 68, 3, 61, 25), (72, 0, 0, 0, 28)] := rfl
theorem zk_T_takeHead_29 : z_blk 64 29 = [(2, 0, 0, 0, 29), (0, 1, 0, 0, 30), (18, 4, 5, 32, 31), (2, 0, 0, 0, 34), (5, 2, 0, 0, 35), (6, 8, 0, 0, 36), (64, 69, 3, 65, 38), (49, 46, 44, 0, 41)] := rfl
theorem zk_T_takeHead_44 : z_blk 64 44 = [(5, 0, 0, 0, 44), (72, 0, 0, 0, 45)] := rfl
theorem zk_T_takeHead_46 : z_blk 64 46 = [(2, 0, 0, 0, 46), (17, 4, 0, 12, 47), (2, 0, 0, 0, 50), (16, 4, 6, 68, 51), (64, 7, 2, 71, 54), (2, 0, 0, 0, 57), (64, 71, 1, 48, 58), (72, 0, 0, 0, 61)] := rfl
theorem ze_T_takeHead (w0 : Value) (G : zG) (M : zM) : z_call 64 [w0] G M = z_ex 64 (z_blk 64 0) [w0, .null] [] G M := rfl
theorem zr_T_takeHead : z_rc 64 = 4 := rfl
theorem zk_T_skipBlanks_0 : z_blk 65 0 = [(2, 0, 0, 0, 0), (16, 4, 5, 32, 1), (2, 0, 0, 0, 4), (16, 4, 4, 28, 5), (45, 38, 11, 0, 8)] := rfl
theorem zk_T_skipBlanks_11 : z_blk 65 11 = [(2, 0, 0, 0, 11), (17, 4, 3, 18, 12), (2, 0, 0, 0, 15), (16, 4, 5, 32, 16), (32, 0, 0, 0, 19), (6, 32, 0, 0, 20), (43, 38, 25, 0, 22)] := rfl
theorem zk_T_skipBlanks_25 : z_blk 65 25 = [(2, 0, 0, 0, 25), (39, 0, 0, 0, 26), (16, 4, 5, 32, 27), (5, 1, 0, 0, 30), (20, 0, 0, 0, 31), (18, 4, 5, 32, 32), (54, 0, 0, 0, 35)] := rfl
theorem zk_T_skipBlanks_38 : z_blk 65 38 = [(69, 0, 0, 0, 38)] := rfl
theorem ze_T_skipBlanks (w0 : Value) (G : zG) (M : zM) : z_call 65 [w0] G M = z_ex 65 (z_blk 65 0) [w0] [] G M := rfl
theorem zr_T_skipBlanks : z_rc 65 = 4 := rfl
theorem zk_T_wordEnd_0 : z_blk 66 0 = [(2, 0, 0, 0, 0), (16, 4, 5, 32, 1), (10, 1, 0, 0, 4), (55, 5, 0, 0, 5)] := rfl
theorem zk_T_wordEnd_5 : z_blk 66 5 = [(0, 1, 0, 0, 5), (2, 0, 0, 0, 6), (16, 4, 4, 28, 7), (45, 41, 13, 0, 10)] := rfl
theorem zk_T_wordEnd_13 : z_blk 66 13 = [(2, 0, 0, 0, 13), (17, 4, 3, 18, 14), (0, 1, 0, 0, 17), (32, 0, 0, 0, 18), (6, 97, 0, 0, 19), (44, 41, 24, 0, 21)] := rfl
theorem zk_T_wordEnd_24 : z_blk 66 24 = [(2, 0, 0, 0, 24), (17, 4, 3, 18, 25), (0, 1, 0, 0, 28), (32, 0, 0, 0, 29), (6, 122, 0, 0, 30), (46, 41, 35, 0, 32)] := rfl
theorem zk_T_wordEnd_35 : z_blk 66 35 = [(15, 1, 1, 0, 35), (54, 5, 0, 0, 38)] := rfl
theorem zk_T_wordEnd_41 : z_blk 66 41 = [(0, 1, 0, 0, 41), (70, 0, 0, 0, 42)] := rfl
theorem ze_T_wordEnd (w0 : Value) (G : zG) (M : zM) : z_call 66 [w0] G M = z_ex 66 (z_blk 66 0) [w0, .null] [] G M := rfl
theorem zr_T_wordEnd : z_rc 66 = 4 := rfl
theorem zk_T_isWord_0 : z_blk 67 0 = [(0, 2, 0, 0, 0), (2, 0, 0, 0, 1), (16, 4, 5, 32, 2), (21, 0, 0, 0, 5), (2, 1, 0, 0, 6), (81, 0, 0, 119, 7), (42, 15, 13, 0, 10)] := rfl
theorem zk_T_isWord_13 : z_blk 67 13 = [(5, 0, 0, 0, 13), (72, 0, 0, 0, 14)] := rfl
theorem zk_T_isWord_15 : z_blk 67 15 = [(5, 0, 0, 0, 15), (10, 3, 0, 0, 16), (55, 17, 0, 0, 17)] := rfl
theorem zk_T_isWord_17 : z_blk 67 17 = [(0, 3, 0, 0, 17), (2, 1, 0, 0, 18), (81, 0, 0, 119, 19), (45, 52, 25, 0, 22)] := rfl
theorem zk_T_isWord_25 : z_blk 67 25 = [(2, 0, 0, 0, 25), (17, 4, 3, 18, 26), (2, 0, 0, 0, 29), (16, 4, 5, 32, 30), (0, 3, 0, 0, 33), (20, 0, 0, 0, 34), (32, 0, 0, 0, 35), (2, 1, 0, 0, 36), (0, 3, 0, 0, 37), (82, 0, 0, 123, 38), (42, 46, 44, 0, 41)] := rfl
theorem zk_T_isWord_44 : z_blk 67 44 = [(5, 0, 0, 0, 44), (72, 0, 0, 0, 45)] := rfl
theorem zk_T_isWord_46 : z_blk 67 46 = [(15, 3, 1, 0, 46), (54, 17, 0, 0, 49)] := rfl
theorem zk_T_isWord_52 : z_blk 67 52 = [(5, 1, 0, 0, 52), (72, 0, 0, 0, 53)] := rfl
theorem ze_T_isWord (w0 w1 w2 : Value) (G : zG) (M : zM) : z_call 67 [w0, w1, w2] G M = z_ex 67 (z_blk 67 0) [w0, w1, w2, .null] [] G M := rfl
theorem zr_T_isWord : z_rc 67 = 4 := rfl
theorem zk_T_fails_0 : z_blk 68 0 = [(2, 0, 0, 0, 0), (0, 1, 0, 0, 1), (18, 4, 1, 127, 2), (2, 0, 0, 0, 5), (0, 2, 0, 0, 6), (18, 4, 2, 130, 7), (5, 0, 0, 0, 10), (72, 0, 0, 0, 11)] := rfl
theorem ze_T_fails (w0 w1 w2 : Value) (G : zG) (M : zM) : z_call 68 [w0, w1, w2] G M = z_ex 68 (z_blk 68 0) [w0, w1, w2] [] G M := rfl
theorem zr_T_fails : z_rc 68 = 4 := rfl
theorem zk_T_takeNumber_0 : z_blk 69 0 = [(2, 0, 0, 0, 0), (64, 65, 1, 42, 1), (2, 0, 0, 0, 4), (2, 0, 0, 0, 5), (16, 4, 5, 32, 6), (18, 4, 7, 103, 9), (2, 0, 0, 0, 12), (5, 0, 0, 0, 13), (18, 4, 6, 68, 14), (55, 17, 0, 0, 17)] := rfl
theorem zk_T_takeNumber_17 : z_blk 69 17 = [(2, 0, 0, 0, 17), (16, 4, 5, 32, 18), (2, 0, 0, 0, 21), (16, 4, 4, 28, 22), (45, 82, 28, 0, 25)] := rfl
theorem zk_T_takeNumber_28 : z_blk 69 28 = [(2, 0, 0, 0, 28), (2, 0, 0, 0, 29), (16, 4, 5, 32, 30), (64, 70, 2, 106, 33), (48, 82, 39, 0, 36)] := rfl
theorem zk_T_takeNumber_39 : z_blk 69 39 = [(2, 0, 0, 0, 39), (7, 1000, 0, 0, 40), (6, 10, 0, 0, 43), (2, 0, 0, 0, 45), (16, 4, 6, 68, 46), (22, 0, 0, 0, 49), (2, 0, 0, 0, 50), (17, 4, 3, 18, 51), (2, 0, 0, 0, 54), (16, 4, 5, 32, 55), (32, 0, 0, 0, 58), (20, 0, 0, 0, 59), (6, 48, 0, 0, 60), (21, 0, 0, 0, 62), (63, 63, 2, 22, 63), (18, 4, 6, 68, 66), (2, 0, 0, 0, 69), (39, 0, 0, 0, 70), (16, 4, 5, 32, 71), (5, 1, 0, 0, 74), (20, 0, 0, 0, 75), (18, 4, 5, 32, 76), (54, 17, 0, 0, 79)] := rfl
theorem zk_T_takeNumber_82 : z_blk 69 82 = [(2, 0, 0, 0, 82), (16, 4, 5, 32, 83), (2, 0, 0, 0, 86), (16, 4, 7, 103, 87), (43, 103, 93, 0, 90)] := rfl
theorem zk_T_takeNumber_93 : z_blk 69 93 = [(2, 0, 0, 0, 93), (5, 1, 0, 0, 94), (2, 0, 0, 0, 95), (16, 4, 5, 32, 96), (64, 68, 3, 61, 99), (72, 0, 0, 0, 102)] := rfl
theorem zk_T_takeNumber_103 : z_blk 69 103 = [(2, 0, 0, 0, 103), (16, 4, 6, 68, 104), (0, 1, 0, 0, 107), (44, 119, 111, 0, 108)] := rfl
theorem zk_T_takeNumber_111 : z_blk 69 111 = [(2, 0, 0, 0, 111), (16, 4, 6, 68, 112), (0, 2, 0, 0, 115), (47, 131, 119, 0, 116)] := rfl
theorem zk_T_takeNumber_119 : z_blk 69 119 = [(2, 0, 0, 0, 119), (5, 2, 0, 0, 120), (2, 0, 0, 0, 121), (16, 4, 7, 103, 122), (64, 68, 3, 61, 125), (48, 135, 131, 0, 128)] := rfl
theorem zk_T_takeNumber_131 : z_blk 69 131 = [(5, 1, 0, 0, 131), (54, 136, 0, 0, 132)] := rfl
theorem zk_T_takeNumber_135 : z_blk 69 135 = [(5, 0, 0, 0, 135), (55, 136, 0, 0, 136)] := rfl
theorem zk_T_takeNumber_136 : z_blk 69 136 = [(72, 0, 0, 0, 136)] := rfl
theorem ze_T_takeNumber (w0 w1 w2 : Value) (G : zG) (M : zM) : z_call 69 [w0, w1, w2] G M = z_ex 69 (z_blk 69 0) [w0, w1, w2] [] G M := rfl
theorem zr_T_takeNumber : z_rc 69 = 4 := rfl
theorem zk_T_isDigit_0 : z_blk 70 0 = [(2, 0, 0, 0, 0), (17, 4, 3, 18, 1), (0, 1, 0, 0, 4), (32, 0, 0, 0, 5), (6, 48, 0, 0, 6), (44, 26, 11, 0, 8)] := rfl
theorem zk_T_isDigit_11 : z_blk 70 11 = [(2, 0, 0, 0, 11), (17, 4, 3, 18, 12), (0, 1, 0, 0, 15), (32, 0, 0, 0, 16), (6, 57, 0, 0, 17), (46, 26, 22, 0, 19)] := rfl
theorem zk_T_isDigit_22 : z_blk 70 22 = [(5, 1, 0, 0, 22), (54, 27, 0, 0, 23)] := rfl
theorem zk_T_isDigit_26 : z_blk 70 26 = [(5, 0, 0, 0, 26), (55, 27, 0, 0, 27)] := rfl
theorem zk_T_isDigit_27 : z_blk 70 27 = [(72, 0, 0, 0, 27)] := rfl
theorem ze_T_isDigit (w0 w1 : Value) (G : zG) (M : zM) : z_call 70 [w0, w1] G M = z_ex 70 (z_blk 70 0) [w0, w1] [] G M := rfl
theorem zr_T_isDigit : z_rc 70 = 4 := rfl
theorem zk_T_takeEnd_0 : z_blk 71 0 = [(2, 0, 0, 0, 0), (64, 65, 1, 42, 1), (2, 0, 0, 0, 4), (16, 4, 5, 32, 5), (2, 0, 0, 0, 8), (16, 4, 4, 28, 9), (45, 29, 15, 0, 12)] := rfl
theorem zk_T_takeEnd_15 : z_blk 71 15 = [(2, 0, 0, 0, 15), (17, 4, 3, 18, 16), (2, 0, 0, 0, 19), (16, 4, 5, 32, 20), (32, 0, 0, 0, 23), (6, 59, 0, 0, 24), (42, 39, 29, 0, 26)] := rfl
theorem zk_T_takeEnd_29 : z_blk 71 29 = [(2, 0, 0, 0, 29), (5, 1, 0, 0, 30), (2, 0, 0, 0, 31), (16, 4, 5, 32, 32), (64, 68, 3, 61, 35), (72, 0, 0, 0, 38)] := rfl
theorem zk_T_takeEnd_39 : z_blk 71 39 = [(2, 0, 0, 0, 39), (39, 0, 0, 0, 40), (16, 4, 5, 32, 41), (5, 1, 0, 0, 44), (20, 0, 0, 0, 45), (18, 4, 5, 32, 46), (5, 1, 0, 0, 49), (72, 0, 0, 0, 50)] := rfl
theorem ze_T_takeEnd (w0 : Value) (G : zG) (M : zM) : z_call 71 [w0] G M = z_ex 71 (z_blk 71 0) [w0] [] G M := rfl
theorem zr_T_takeEnd : z_rc 71 = 4 := rfl
theorem zk_T_takeLine_0 : z_blk 72 0 = [(2, 0, 0, 0, 0), (64, 66, 1, 51, 1), (10, 1, 0, 0, 4), (2, 0, 0, 0, 5), (0, 1, 0, 0, 6), (64, 73, 2, 75, 7), (10, 2, 0, 0, 10), (0, 2, 0, 0, 11), (5, 4294967295, 0, 0, 12), (43, 26, 16, 0, 13)] := rfl
theorem zk_T_takeLine_16 : z_blk 72 16 = [(2, 0, 0, 0, 16), (5, 1, 0, 0, 17), (2, 0, 0, 0, 18), (16, 4, 5, 32, 19), (64, 68, 3, 61, 22), (72, 0, 0, 0, 25)] := rfl
theorem zk_T_takeLine_26 : z_blk 72 26 = [(2, 0, 0, 0, 26), (16, 4, 8, 35, 27), (5, 1, 0, 0, 30), (0, 2, 0, 0, 31), (26, 0, 0, 0, 32), (23, 0, 0, 0, 33), (48, 47, 37, 0, 34)] := rfl
theorem zk_T_takeLine_37 : z_blk 72 37 = [(2, 0, 0, 0, 37), (5, 4, 0, 0, 38), (2, 0, 0, 0, 39), (16, 4, 5, 32, 40), (64, 68, 3, 61, 43), (72, 0, 0, 0, 46)] := rfl
theorem zk_T_takeLine_47 : z_blk 72 47 = [(2, 0, 0, 0, 47), (39, 0, 0, 0, 48), (16, 4, 8, 35, 49), (5, 1, 0, 0, 52), (0, 2, 0, 0, 53), (26, 0, 0, 0, 54), (24, 0, 0, 0, 55), (18, 4, 8, 35, 56), (2, 0, 0, 0, 59), (0, 1, 0, 0, 60), (18, 4, 5, 32, 61), (0, 2, 0, 0, 64), (49, 73, 68, 0, 65)] := rfl
theorem zk_T_takeLine_68 : z_blk 72 68 = [(2, 0, 0, 0, 68), (64, 74, 1, 79, 69), (72, 0, 0, 0, 72)] := rfl
theorem zk_T_takeLine_73 : z_blk 72 73 = [(0, 2, 0, 0, 73), (5, 1, 0, 0, 74), (43, 99, 78, 0, 75)] := rfl
theorem zk_T_takeLine_78 : z_blk 72 78 = [(2, 0, 0, 0, 78), (5, 1, 0, 0, 79), (6, 6, 0, 0, 80), (64, 69, 3, 65, 82), (10, 3, 0, 0, 85), (2, 0, 0, 0, 86), (17, 4, 0, 12, 87), (2, 0, 0, 0, 90), (16, 4, 6, 68, 91), (18, 3, 1, 82, 94), (0, 3, 0, 0, 97), (72, 0, 0, 0, 98)] := rfl
theorem zk_T_takeLine_99 : z_blk 72 99 = [(2, 0, 0, 0, 99), (0, 2, 0, 0, 100), (5, 2, 0, 0, 101), (21, 0, 0, 0, 102), (64, 75, 2, 85, 103), (72, 0, 0, 0, 106)] := rfl
theorem ze_T_takeLine (w0 : Value) (G : zG) (M : zM) : z_call 72 [w0] G M = z_ex 72 (z_blk 72 0) [w0, .null, .null, .null] [] G M := rfl
theorem zr_T_takeLine : z_rc 72 = 4 := rfl
theorem zk_T_lineOf_0 : z_blk 73 0 = [(2, 0, 0, 0, 0), (79, 7, 0, 109, 1), (0, 1, 0, 0, 3), (64, 67, 3, 57, 4), (48, 12, 10, 0, 7)] := rfl
theorem zk_T_lineOf_10 : z_blk 73 10 = [(5, 0, 0, 0, 10), (70, 0, 0, 0, 11)] := rfl
theorem zk_T_lineOf_12 : z_blk 73 12 = [(2, 0, 0, 0, 12), (79, 8, 0, 110, 13), (0, 1, 0, 0, 15), (64, 67, 3, 57, 16), (48, 24, 22, 0, 19)] := rfl
theorem zk_T_lineOf_22 : z_blk 73 22 = [(5, 1, 0, 0, 22), (70, 0, 0, 0, 23)] := rfl
theorem zk_T_lineOf_24 : z_blk 73 24 = [(2, 0, 0, 0, 24), (79, 9, 0, 111, 25), (0, 1, 0, 0, 27), (64, 67, 3, 57, 28), (48, 36, 34, 0, 31)] := rfl
theorem zk_T_lineOf_34 : z_blk 73 34 = [(5, 2, 0, 0, 34), (70, 0, 0, 0, 35)] := rfl
theorem zk_T_lineOf_36 : z_blk 73 36 = [(2, 0, 0, 0, 36), (79, 10, 0, 113, 37), (0, 1, 0, 0, 39), (64, 67, 3, 57, 40), (48, 48, 46, 0, 43)] := rfl
theorem zk_T_lineOf_46 : z_blk 73 46 = [(5, 3, 0, 0, 46), (70, 0, 0, 0, 47)] := rfl
theorem zk_T_lineOf_48 : z_blk 73 48 = [(2, 0, 0, 0, 48), (79, 11, 0, 115, 49), (0, 1, 0, 0, 51), (64, 67, 3, 57, 52), (48, 60, 58, 0, 55)] := rfl
theorem zk_T_lineOf_58 : z_blk 73 58 = [(5, 4, 0, 0, 58), (70, 0, 0, 0, 59)] := rfl
theorem zk_T_lineOf_60 : z_blk 73 60 = [(2, 0, 0, 0, 60), (79, 12, 0, 117, 61), (0, 1, 0, 0, 63), (64, 67, 3, 57, 64), (48, 74, 70, 0, 67)] := rfl
theorem zk_T_lineOf_70 : z_blk 73 70 = [(5, 5, 0, 0, 70), (54, 75, 0, 0, 71)] := rfl
theorem zk_T_lineOf_74 : z_blk 73 74 = [(5, 4294967295, 0, 0, 74), (55, 75, 0, 0, 75)] := rfl
theorem zk_T_lineOf_75 : z_blk 73 75 = [(70, 0, 0, 0, 75)] := rfl
theorem ze_T_lineOf (w0 w1 : Value) (G : zG) (M : zM) : z_call 73 [w0, w1] G M = z_ex 73 (z_blk 73 0) [w0, w1] [] G M := rfl
theorem zr_T_lineOf : z_rc 73 = 4 := rfl
theorem zk_T_takeRanks_0 : z_blk 74 0 = [(5, 0, 0, 0, 0), (10, 1, 0, 0, 1), (55, 2, 0, 0, 2)] := rfl
theorem zk_T_takeRanks_2 : z_blk 74 2 = [(0, 1, 0, 0, 2), (2, 0, 0, 0, 3), (17, 4, 0, 12, 4), (16, 3, 0, 98, 7), (45, 83, 13, 0, 10)] := rfl
theorem zk_T_takeRanks_13 : z_blk 74 13 = [(2, 0, 0, 0, 13), (5, 0, 0, 0, 14), (6, 99, 0, 0, 15), (64, 69, 3, 65, 17), (49, 25, 23, 0, 20)] := rfl
theorem zk_T_takeRanks_23 : z_blk 74 23 = [(5, 0, 0, 0, 23), (72, 0, 0, 0, 24)] := rfl
theorem zk_T_takeRanks_25 : z_blk 74 25 = [(5, 0, 0, 0, 25), (10, 2, 0, 0, 26), (55, 27, 0, 0, 27)] := rfl
theorem zk_T_takeRanks_27 : z_blk 74 27 = [(0, 2, 0, 0, 27), (0, 1, 0, 0, 28), (45, 64, 32, 0, 29)] := rfl
theorem zk_T_takeRanks_32 : z_blk 74 32 = [(2, 0, 0, 0, 32), (17, 4, 0, 12, 33), (17, 3, 3, 100, 36), (0, 2, 0, 0, 39), (32, 0, 0, 0, 40), (2, 0, 0, 0, 41), (16, 4, 6, 68, 42), (43, 58, 48, 0, 45)] := rfl
theorem zk_T_takeRanks_48 : z_blk 74 48 = [(2, 0, 0, 0, 48), (5, 3, 0, 0, 49), (2, 0, 0, 0, 50), (16, 4, 7, 103, 51), (64, 68, 3, 61, 54), (72, 0, 0, 0, 57)] := rfl
theorem zk_T_takeRanks_58 : z_blk 74 58 = [(15, 2, 1, 0, 58), (54, 27, 0, 0, 61)] := rfl
theorem zk_T_takeRanks_64 : z_blk 74 64 = [(2, 0, 0, 0, 64), (17, 4, 0, 12, 65), (17, 3, 3, 100, 68), (0, 1, 0, 0, 71), (2, 0, 0, 0, 72), (16, 4, 6, 68, 73), (33, 0, 0, 0, 76), (15, 1, 1, 0, 77), (54, 2, 0, 0, 80)] := rfl
theorem zk_T_takeRanks_83 : z_blk 74 83 = [(5, 1, 0, 0, 83), (72, 0, 0, 0, 84)] := rfl
theorem ze_T_takeRanks (w0 : Value) (G : zG) (M : zM) : z_call 74 [w0] G M = z_ex 74 (z_blk 74 0) [w0, .null, .null] [] G M := rfl
theorem zr_T_takeRanks : z_rc 74 = 4 := rfl
theorem zk_T_takeRule_0 : z_blk 75 0 = [(0, 1, 0, 0, 0), (50, 26, 4, 0, 1)] := rfl
theorem zk_T_takeRule_4 : z_blk 75 4 = [(0, 1, 0, 0, 4), (5, 4, 0, 0, 5), (45, 26, 9, 0, 6)] := rfl
theorem zk_T_takeRule_9 : z_blk 75 9 = [(2, 0, 0, 0, 9), (85, 2, 0, 89, 10), (0, 1, 0, 0, 13), (32, 0, 0, 0, 14), (85, 3, 0, 92, 15), (0, 1, 0, 0, 18), (32, 0, 0, 0, 19), (64, 69, 3, 65, 20), (49, 28, 26, 0, 23)] := rfl
theorem zk_T_takeRule_26 : z_blk 75 26 = [(5, 0, 0, 0, 26), (72, 0, 0, 0, 27)] := rfl
theorem zk_T_takeRule_28 : z_blk 75 28 = [(2, 0, 0, 0, 28), (17, 4, 0, 12, 29), (17, 3, 2, 95, 32), (0, 1, 0, 0, 35), (2, 0, 0, 0, 36), (16, 4, 6, 68, 37), (33, 0, 0, 0, 40), (5, 1, 0, 0, 41), (72, 0, 0, 0, 42)] := rfl
theorem ze_T_takeRule (w0 w1 : Value) (G : zG) (M : zM) : z_call 75 [w0, w1] G M = z_ex 75 (z_blk 75 0) [w0, w1] [] G M := rfl
theorem zr_T_takeRule : z_rc 75 = 4 := rfl
theorem zk_L_ticks_0 : z_blk 76 0 = [(2, 2, 0, 0, 0), (5, 0, 0, 0, 1), (2, 0, 0, 0, 2), (0, 1, 0, 0, 3), (64, 77, 2, 15, 4), (57, 0, 0, 0, 7), (38, 0, 0, 0, 8), (54, 15, 0, 0, 9)] := rfl
theorem zk_L_ticks_13 : z_blk 76 13 = [(5, 1, 0, 0, 13), (70, 0, 0, 0, 14)] := rfl
theorem zk_L_ticks_15 : z_blk 76 15 = [(5, 0, 0, 0, 15), (70, 0, 0, 0, 16)] := rfl
theorem ze_L_ticks (w0 w1 w2 : Value) (G : zG) (M : zM) : z_call 76 [w0, w1, w2] G M = z_ex 76 (z_blk 76 0) [w0, w1, w2, .null] [] G M := rfl
theorem zk_C_ticks_0 : z_blk 77 0 = [(2, 0, 0, 0, 0), (0, 1, 0, 0, 1), (5, 1, 0, 0, 2), (44, 16, 6, 0, 3)] := rfl
theorem zk_C_ticks_6 : z_blk 77 6 = [(0, 1, 0, 0, 6), (6, 100, 0, 0, 7), (46, 16, 12, 0, 9)] := rfl
theorem zk_C_ticks_12 : z_blk 77 12 = [(5, 1, 0, 0, 12), (54, 17, 0, 0, 13)] := rfl
theorem zk_C_ticks_16 : z_blk 77 16 = [(5, 0, 0, 0, 16), (55, 17, 0, 0, 17)] := rfl
theorem zk_C_ticks_17 : z_blk 77 17 = [(64, 61, 2, 65, 17), (2, 0, 0, 0, 20), (64, 24, 1, 87, 21), (2, 0, 0, 0, 24), (17, 6, 5, 30, 25), (0, 1, 0, 0, 28), (64, 78, 2, 90, 29), (70, 0, 0, 0, 32)] := rfl
theorem ze_C_ticks (w0 w1 : Value) (G : zG) (M : zM) : z_call 77 [w0, w1] G M = z_ex 77 (z_blk 77 0) [w0, w1] [] G M := rfl
theorem zr_C_ticks : z_rc 77 = 6 := rfl
theorem zk_W_run_0 : z_blk 78 0 = [(5, 0, 0, 0, 0), (10, 2, 0, 0, 1), (5, 0, 0, 0, 2), (10, 3, 0, 0, 3), (55, 4, 0, 0, 4)] := rfl
theorem zk_W_run_4 : z_blk 78 4 = [(0, 3, 0, 0, 4), (0, 1, 0, 0, 5), (45, 22, 9, 0, 6)] := rfl
theorem zk_W_run_9 : z_blk 78 9 = [(0, 2, 0, 0, 9), (2, 0, 0, 0, 10), (64, 79, 1, 106, 11), (20, 0, 0, 0, 14), (10, 2, 0, 0, 15), (15, 3, 1, 0, 16), (54, 4, 0, 0, 19)] := rfl
theorem zk_W_run_22 : z_blk 78 22 = [(0, 2, 0, 0, 22), (70, 0, 0, 0, 23)] := rfl
theorem ze_W_run (w0 w1 : Value) (G : zG) (M : zM) : z_call 78 [w0, w1] G M = z_ex 78 (z_blk 78 0) [w0, w1, .null, .null] [] G M := rfl
theorem zr_W_run : z_rc 78 = 5 := rfl
theorem zk_W_tick_0 : z_blk 79 0 = [(2, 0, 0, 0, 0), (64, 34, 1, 109, 1), (10, 1, 0, 0, 4), (5, 0, 0, 0, 5), (10, 2, 0, 0, 6), (55, 7, 0, 0, 7)] := rfl
theorem zk_W_tick_7 : z_blk 79 7 = [(0, 2, 0, 0, 7), (2, 0, 0, 0, 8), (16, 5, 0, 43, 9), (45, 54, 15, 0, 12)] := rfl
theorem zk_W_tick_15 : z_blk 79 15 = [(2, 0, 0, 0, 15), (2, 0, 0, 0, 16), (17, 5, 5, 20, 17), (0, 2, 0, 0, 20), (34, 0, 0, 0, 21), (64, 80, 2, 112, 22), (2, 0, 0, 0, 25), (17, 5, 5, 20, 26), (0, 2, 0, 0, 29), (34, 0, 0, 0, 30), (17, 2, 14, 115, 31), (2, 0, 0, 0, 34), (17, 5, 5, 20, 35), (0, 2, 0, 0, 38), (34, 0, 0, 0, 39), (16, 2, 3, 97, 40), (40, 0, 0, 0, 43), (32, 0, 0, 0, 44), (5, 1, 0, 0, 45), (20, 0, 0, 0, 46), (33, 0, 0, 0, 47), (15, 2, 1, 0, 48), (54, 7, 0, 0, 51)] := rfl
theorem zk_W_tick_54 : z_blk 79 54 = [(0, 1, 0, 0, 54), (70, 0, 0, 0, 55)] := rfl
theorem ze_W_tick (w0 : Value) (G : zG) (M : zM) : z_call 79 [w0] G M = z_ex 79 (z_blk 79 0) [w0, .null, .null] [] G M := rfl
theorem zr_W_tick : z_rc 79 = 5 := rfl
theorem zk_W_labour_0 : z_blk 80 0 = [(2, 0, 0, 0, 0), (2, 1, 0, 0, 1), (64, 81, 2, 241, 2), (10, 2, 0, 0, 5), (5, 4294967295, 0, 0, 6), (10, 3, 0, 0, 7), (5, 0, 0, 0, 8), (11, 4, 0, 0, 9), (55, 11, 0, 0, 11)] := rfl
theorem zk_W_labour_11 : z_blk 80 11 = [(1, 4, 0, 0, 11), (2, 0, 0, 0, 13), (16, 5, 1, 47, 14), (45, 59, 20, 0, 17)] := rfl
theorem zk_W_labour_20 : z_blk 80 20 = [(0, 2, 0, 0, 20), (5, 1, 0, 0, 21), (1, 4, 0, 0, 22), (26, 0, 0, 0, 24), (23, 0, 0, 0, 25), (48, 53, 29, 0, 26)] := rfl
theorem zk_W_labour_29 : z_blk 80 29 = [(0, 3, 0, 0, 29), (5, 4294967295, 0, 0, 30), (42, 50, 34, 0, 31)] := rfl
theorem zk_W_labour_34 : z_blk 80 34 = [(2, 1, 0, 0, 34), (17, 2, 12, 208, 35), (1, 4, 0, 0, 38), (32, 0, 0, 0, 40), (2, 1, 0, 0, 41), (17, 2, 12, 208, 42), (0, 3, 0, 0, 45), (32, 0, 0, 0, 46), (45, 53, 50, 0, 47)] := rfl
theorem zk_W_labour_50 : z_blk 80 50 = [(1, 4, 0, 0, 50), (10, 3, 0, 0, 52), (55, 53, 0, 0, 53)] := rfl
theorem zk_W_labour_53 : z_blk 80 53 = [(15, 4, 1, 0, 53), (54, 11, 0, 0, 56)] := rfl
theorem zk_W_labour_59 : z_blk 80 59 = [(0, 3, 0, 0, 59), (5, 4294967295, 0, 0, 60), (42, 84, 64, 0, 61)] := rfl
theorem zk_W_labour_64 : z_blk 80 64 = [(2, 1, 0, 0, 64), (17, 2, 12, 208, 65), (0, 3, 0, 0, 68), (40, 0, 0, 0, 69), (32, 0, 0, 0, 70), (5, 1, 0, 0, 71), (20, 0, 0, 0, 72), (33, 0, 0, 0, 73), (2, 1, 0, 0, 74), (17, 2, 13, 245, 75), (0, 3, 0, 0, 78), (40, 0, 0, 0, 79), (32, 0, 0, 0, 80), (5, 1, 0, 0, 81), (20, 0, 0, 0, 82), (33, 0, 0, 0, 83), (55, 84, 0, 0, 84)] := rfl
theorem zk_W_labour_84 : z_blk 80 84 = [(69, 0, 0, 0, 84)] := rfl
theorem ze_W_labour (w0 w1 : Value) (G : zG) (M : zM) : z_call 80 [w0, w1] G M = z_ex 80 (z_blk 80 0) [w0, w1, .null, .null, .null] [] G M := rfl
theorem zr_W_labour : z_rc 80 = 5 := rfl
theorem zk_W_partOf_0 : z_blk 81 0 = [(2, 1, 0, 0, 0), (16, 2, 7, 172, 1), (63, 13, 1, 91, 4), (10, 2, 0, 0, 7), (2, 1, 0, 0, 8), (16, 2, 3, 97, 9), (49, 19, 15, 0, 12)] := rfl
theorem zk_W_partOf_15 : z_blk 81 15 = [(0, 2, 0, 0, 15), (49, 21, 19, 0, 16)] := rfl
theorem zk_W_partOf_19 : z_blk 81 19 = [(5, 0, 0, 0, 19), (70, 0, 0, 0, 20)] := rfl
theorem zk_W_partOf_21 : z_blk 81 21 = [(5, 0, 0, 0, 21), (10, 3, 0, 0, 22), (2, 1, 0, 0, 23), (16, 2, 7, 172, 24), (2, 1, 0, 0, 27), (16, 2, 2, 71, 28), (23, 0, 0, 0, 31), (63, 13, 1, 91, 32), (11, 4, 0, 0, 35), (55, 37, 0, 0, 37)] := rfl
theorem zk_W_partOf_37 : z_blk 81 37 = [(1, 4, 0, 0, 37), (2, 0, 0, 0, 39), (16, 5, 1, 47, 40), (45, 62, 46, 0, 43)] := rfl
theorem zk_W_partOf_46 : z_blk 81 46 = [(0, 3, 0, 0, 46), (5, 1, 0, 0, 47), (1, 4, 0, 0, 48), (26, 0, 0, 0, 50), (24, 0, 0, 0, 51), (10, 3, 0, 0, 52), (1, 4, 0, 0, 53), (0, 2, 0, 0, 55), (20, 0, 0, 0, 56), (11, 4, 0, 0, 57), (54, 37, 0, 0, 59)] := rfl
theorem zk_W_partOf_62 : z_blk 81 62 = [(0, 3, 0, 0, 62), (70, 0, 0, 0, 63)] := rfl
theorem ze_W_partOf (w0 w1 : Value) (G : zG) (M : zM) : z_call 81 [w0, w1] G M = z_ex 81 (z_blk 81 0) [w0, w1, .null, .null, .null] [] G M := rfl
theorem zr_W_partOf : z_rc 81 = 5 := rfl
theorem zk_L_cut_0 : z_blk 82 0 = [(2, 2, 0, 0, 0), (5, 0, 0, 0, 1), (2, 0, 0, 0, 2), (0, 1, 0, 0, 3), (64, 83, 2, 18, 4), (57, 0, 0, 0, 7), (38, 0, 0, 0, 8), (54, 15, 0, 0, 9)] := rfl
theorem zk_L_cut_13 : z_blk 82 13 = [(5, 1, 0, 0, 13), (70, 0, 0, 0, 14)] := rfl
theorem zk_L_cut_15 : z_blk 82 15 = [(5, 0, 0, 0, 15), (70, 0, 0, 0, 16)] := rfl
theorem ze_L_cut (w0 w1 w2 : Value) (G : zG) (M : zM) : z_call 82 [w0, w1, w2] G M = z_ex 82 (z_blk 82 0) [w0, w1, w2, .null] [] G M := rfl
theorem zk_C_cut_0 : z_blk 83 0 = [(2, 0, 0, 0, 0), (2, 0, 0, 0, 1), (17, 6, 5, 30, 2), (0, 1, 0, 0, 5), (64, 84, 2, 94, 6), (64, 61, 2, 65, 9), (2, 0, 0, 0, 12), (64, 24, 1, 87, 13), (2, 0, 0, 0, 16), (17, 6, 5, 30, 17), (0, 1, 0, 0, 20), (64, 85, 2, 98, 21), (70, 0, 0, 0, 24)] := rfl
theorem ze_C_cut (w0 w1 : Value) (G : zG) (M : zM) : z_call 83 [w0, w1] G M = z_ex 83 (z_blk 83 0) [w0, w1] [] G M := rfl
theorem zr_C_cut : z_rc 83 = 6 := rfl
theorem zk_W_isSet_0 : z_blk 84 0 = [(0, 1, 0, 0, 0), (2, 0, 0, 0, 1), (64, 12, 1, 88, 2), (5, 4294967295, 0, 0, 5), (25, 0, 0, 0, 6), (23, 0, 0, 0, 7), (49, 15, 11, 0, 8)] := rfl
theorem zk_W_isSet_11 : z_blk 84 11 = [(5, 1, 0, 0, 11), (54, 16, 0, 0, 12)] := rfl
theorem zk_W_isSet_15 : z_blk 84 15 = [(5, 0, 0, 0, 15), (55, 16, 0, 0, 16)] := rfl
theorem zk_W_isSet_16 : z_blk 84 16 = [(72, 0, 0, 0, 16)] := rfl
theorem ze_W_isSet (w0 w1 : Value) (G : zG) (M : zM) : z_call 84 [w0, w1] G M = z_ex 84 (z_blk 84 0) [w0, w1] [] G M := rfl
theorem zr_W_isSet : z_rc 84 = 5 := rfl
theorem zk_W_sever_0 : z_blk 85 0 = [(5, 0, 0, 0, 0), (10, 2, 0, 0, 1), (2, 0, 0, 0, 2), (64, 12, 1, 88, 3), (0, 1, 0, 0, 6), (5, 4294967295, 0, 0, 7), (25, 0, 0, 0, 8), (23, 0, 0, 0, 9), (10, 3, 0, 0, 10), (5, 0, 0, 0, 11), (11, 4, 0, 0, 12), (55, 14, 0, 0, 14)] := rfl
theorem zk_W_sever_14 : z_blk 85 14 = [(1, 4, 0, 0, 14), (2, 0, 0, 0, 16), (16, 5, 0, 43, 17), (45, 82, 23, 0, 20)] := rfl
theorem zk_W_sever_23 : z_blk 85 23 = [(0, 1, 0, 0, 23), (5, 1, 0, 0, 24), (1, 4, 0, 0, 25), (26, 0, 0, 0, 27), (23, 0, 0, 0, 28), (48, 63, 32, 0, 29)] := rfl
theorem zk_W_sever_32 : z_blk 85 32 = [(0, 2, 0, 0, 32), (2, 0, 0, 0, 33), (17, 5, 4, 15, 34), (1, 4, 0, 0, 37), (32, 0, 0, 0, 39), (0, 3, 0, 0, 40), (23, 0, 0, 0, 41), (63, 13, 1, 91, 42), (20, 0, 0, 0, 45), (10, 2, 0, 0, 46), (2, 0, 0, 0, 47), (17, 5, 4, 15, 48), (1, 4, 0, 0, 51), (40, 0, 0, 0, 53), (32, 0, 0, 0, 54), (0, 3, 0, 0, 55), (5, 4294967295, 0, 0, 56), (25, 0, 0, 0, 57), (23, 0, 0, 0, 58), (33, 0, 0, 0, 59), (54, 76, 0, 0, 60)] := rfl
theorem zk_W_sever_63 : z_blk 85 63 = [(2, 0, 0, 0, 63), (17, 5, 4, 15, 64), (1, 4, 0, 0, 67), (40, 0, 0, 0, 69), (32, 0, 0, 0, 70), (0, 1, 0, 0, 71), (5, 4294967295, 0, 0, 72), (25, 0, 0, 0, 73), (23, 0, 0, 0, 74), (33, 0, 0, 0, 75), (55, 76, 0, 0, 76)] := rfl
theorem zk_W_sever_76 : z_blk 85 76 = [(15, 4, 1, 0, 76), (54, 14, 0, 0, 79)] := rfl
theorem zk_W_sever_82 : z_blk 85 82 = [(0, 2, 0, 0, 82), (70, 0, 0, 0, 83)] := rfl
theorem ze_W_sever (w0 w1 : Value) (G : zG) (M : zM) : z_call 85 [w0, w1] G M = z_ex 85 (z_blk 85 0) [w0, w1, .null, .null, .null] [] G M := rfl
theorem zr_W_sever : z_rc 85 = 5 := rfl
theorem zk_L_fall_0 : z_blk 86 0 = [(2, 2, 0, 0, 0), (5, 0, 0, 0, 1), (2, 0, 0, 0, 2), (0, 1, 0, 0, 3), (64, 87, 2, 21, 4), (57, 0, 0, 0, 7), (38, 0, 0, 0, 8), (54, 18, 0, 0, 9)] := rfl
theorem zk_L_fall_13 : z_blk 86 13 = [(5, 1, 0, 0, 13), (70, 0, 0, 0, 14)] := rfl
theorem zk_L_fall_16 : z_blk 86 16 = [(5, 2, 0, 0, 16), (70, 0, 0, 0, 17)] := rfl
theorem zk_L_fall_18 : z_blk 86 18 = [(5, 0, 0, 0, 18), (70, 0, 0, 0, 19)] := rfl
theorem ze_L_fall (w0 w1 w2 : Value) (G : zG) (M : zM) : z_call 86 [w0, w1, w2] G M = z_ex 86 (z_blk 86 0) [w0, w1, w2, .null] [] G M := rfl
theorem zk_C_fall_0 : z_blk 87 0 = [(2, 0, 0, 0, 0), (0, 1, 0, 0, 1), (64, 88, 2, 105, 2), (2, 0, 0, 0, 5), (2, 0, 0, 0, 6), (17, 6, 5, 30, 7), (17, 5, 5, 108, 10), (0, 1, 0, 0, 13), (34, 0, 0, 0, 14), (16, 2, 3, 112, 15), (5, 2, 0, 0, 18), (42, 26, 22, 0, 19)] := rfl
theorem zk_C_fall_22 : z_blk 87 22 = [(5, 1, 0, 0, 22), (54, 27, 0, 0, 23)] := rfl
theorem zk_C_fall_26 : z_blk 87 26 = [(5, 0, 0, 0, 26), (55, 27, 0, 0, 27)] := rfl
theorem zk_C_fall_27 : z_blk 87 27 = [(64, 90, 2, 117, 27), (2, 0, 0, 0, 30), (64, 24, 1, 87, 31), (2, 0, 0, 0, 34), (17, 6, 5, 30, 35), (0, 1, 0, 0, 38), (64, 91, 2, 120, 39), (2, 0, 0, 0, 42), (17, 6, 5, 30, 43), (17, 5, 6, 123, 46), (0, 1, 0, 0, 49), (64, 92, 2, 127, 50), (70, 0, 0, 0, 53)] := rfl
theorem ze_C_fall (w0 w1 : Value) (G : zG) (M : zM) : z_call 87 [w0, w1] G M = z_ex 87 (z_blk 87 0) [w0, w1] [] G M := rfl
theorem zr_C_fall : z_rc 87 = 6 := rfl
theorem zk_C_needMember_0 : z_blk 88 0 = [(2, 0, 0, 0, 0), (0, 1, 0, 0, 1), (50, 20, 5, 0, 2)] := rfl
theorem zk_C_needMember_5 : z_blk 88 5 = [(0, 1, 0, 0, 5), (2, 0, 0, 0, 6), (17, 6, 5, 30, 7), (16, 5, 0, 84, 10), (45, 20, 16, 0, 13)] := rfl
theorem zk_C_needMember_16 : z_blk 88 16 = [(5, 1, 0, 0, 16), (54, 21, 0, 0, 17)] := rfl
theorem zk_C_needMember_20 : z_blk 88 20 = [(5, 0, 0, 0, 20), (55, 21, 0, 0, 21)] := rfl
theorem zk_C_needMember_21 : z_blk 88 21 = [(64, 89, 2, 250, 21), (69, 0, 0, 0, 24)] := rfl
theorem ze_C_needMember (w0 w1 : Value) (G : zG) (M : zM) : z_call 88 [w0, w1] G M = z_ex 88 (z_blk 88 0) [w0, w1] [] G M := rfl
theorem zr_C_needMember : z_rc 88 = 6 := rfl
theorem zk_C_needElement_0 : z_blk 89 0 = [(0, 1, 0, 0, 0), (49, 25, 4, 0, 1)] := rfl
theorem zk_C_needElement_4 : z_blk 89 4 = [(2, 0, 0, 0, 4), (17, 6, 3, 17, 5), (5, 0, 0, 0, 8), (40, 0, 0, 0, 9), (32, 0, 0, 0, 10), (5, 1, 0, 0, 11), (20, 0, 0, 0, 12), (33, 0, 0, 0, 13), (83, 0, 0, 0, 14)] := rfl
theorem zk_C_needElement_25 : z_blk 89 25 = [(69, 0, 0, 0, 25)] := rfl
theorem ze_C_needElement (w0 w1 : Value) (G : zG) (M : zM) : z_call 89 [w0, w1] G M = z_ex 89 (z_blk 89 0) [w0, w1] [] G M := rfl
theorem zr_C_needElement : z_rc 89 = 6 := rfl
theorem zk_C_needState_0 : z_blk 90 0 = [(0, 1, 0, 0, 0), (49, 25, 4, 0, 1)] := rfl
theorem zk_C_needState_4 : z_blk 90 4 = [(2, 0, 0, 0, 4), (17, 6, 3, 17, 5), (5, 2, 0, 0, 8), (40, 0, 0, 0, 9), (32, 0, 0, 0, 10), (5, 1, 0, 0, 11), (20, 0, 0, 0, 12), (33, 0, 0, 0, 13), (83, 2, 0, 0, 14)] := rfl
theorem zk_C_needState_25 : z_blk 90 25 = [(69, 0, 0, 0, 25)] := rfl
theorem ze_C_needState (w0 w1 : Value) (G : zG) (M : zM) : z_call 90 [w0, w1] G M = z_ex 90 (z_blk 90 0) [w0, w1] [] G M := rfl
theorem zr_C_needState : z_rc 90 = 6 := rfl
theorem zk_W_drop_0 : z_blk 91 0 = [(2, 0, 0, 0, 0), (17, 5, 5, 20, 1), (0, 1, 0, 0, 4), (34, 0, 0, 0, 5), (5, 2, 0, 0, 6), (18, 2, 3, 97, 7), (2, 0, 0, 0, 10), (17, 5, 5, 20, 11), (0, 1, 0, 0, 14), (34, 0, 0, 0, 15), (5, 0, 0, 0, 16), (18, 2, 10, 100, 17), (69, 0, 0, 0, 20)] := rfl
theorem ze_W_drop (w0 w1 : Value) (G : zG) (M : zM) : z_call 91 [w0, w1] G M = z_ex 91 (z_blk 91 0) [w0, w1] [] G M := rfl
theorem zr_W_drop : z_rc 91 = 5 := rfl
theorem zk_A_underWayTo_0 : z_blk 92 0 = [(5, 0, 0, 0, 0), (10, 2, 0, 0, 1), (5, 0, 0, 0, 2), (10, 3, 0, 0, 3), (55, 4, 0, 0, 4)] := rfl
theorem zk_A_underWayTo_4 : z_blk 92 4 = [(0, 3, 0, 0, 4), (2, 0, 0, 0, 5), (16, 1, 1, 21, 6), (45, 31, 12, 0, 9)] := rfl
theorem zk_A_underWayTo_12 : z_blk 92 12 = [(2, 0, 0, 0, 12), (0, 3, 0, 0, 13), (5, 1, 0, 0, 14), (64, 35, 3, 51, 15), (0, 1, 0, 0, 18), (43, 25, 22, 0, 19)] := rfl
theorem zk_A_underWayTo_22 : z_blk 92 22 = [(15, 2, 1, 0, 22), (55, 25, 0, 0, 25)] := rfl
theorem zk_A_underWayTo_25 : z_blk 92 25 = [(15, 3, 1, 0, 25), (54, 4, 0, 0, 28)] := rfl
theorem zk_A_underWayTo_31 : z_blk 92 31 = [(0, 2, 0, 0, 31), (70, 0, 0, 0, 32)] := rfl
theorem ze_A_underWayTo (w0 w1 : Value) (G : zG) (M : zM) : z_call 92 [w0, w1] G M = z_ex 92 (z_blk 92 0) [w0, w1, .null, .null] [] G M := rfl
theorem zr_A_underWayTo : z_rc 92 = 1 := rfl
theorem zk_L_rise_0 : z_blk 93 0 = [(2, 2, 0, 0, 0), (5, 0, 0, 0, 1), (2, 0, 0, 0, 2), (0, 1, 0, 0, 3), (64, 94, 2, 28, 4), (57, 0, 0, 0, 7), (38, 0, 0, 0, 8), (54, 18, 0, 0, 9)] := rfl
theorem zk_L_rise_13 : z_blk 93 13 = [(5, 1, 0, 0, 13), (70, 0, 0, 0, 14)] := rfl
theorem zk_L_rise_16 : z_blk 93 16 = [(5, 2, 0, 0, 16), (70, 0, 0, 0, 17)] := rfl
theorem zk_L_rise_18 : z_blk 93 18 = [(5, 0, 0, 0, 18), (70, 0, 0, 0, 19)] := rfl
theorem ze_L_rise (w0 w1 w2 : Value) (G : zG) (M : zM) : z_call 93 [w0, w1, w2] G M = z_ex 93 (z_blk 93 0) [w0, w1, w2, .null] [] G M := rfl
theorem zk_C_rise_0 : z_blk 94 0 = [(2, 0, 0, 0, 0), (0, 1, 0, 0, 1), (64, 88, 2, 105, 2), (2, 0, 0, 0, 5), (2, 0, 0, 0, 6), (17, 6, 5, 30, 7), (17, 5, 5, 108, 10), (0, 1, 0, 0, 13), (34, 0, 0, 0, 14), (16, 2, 3, 112, 15), (5, 2, 0, 0, 18), (43, 26, 22, 0, 19)] := rfl
theorem zk_C_rise_22 : z_blk 94 22 = [(5, 1, 0, 0, 22), (54, 27, 0, 0, 23)] := rfl
theorem zk_C_rise_26 : z_blk 94 26 = [(5, 0, 0, 0, 26), (55, 27, 0, 0, 27)] := rfl
theorem zk_C_rise_27 : z_blk 94 27 = [(64, 90, 2, 117, 27), (2, 0, 0, 0, 30), (64, 24, 1, 87, 31), (2, 0, 0, 0, 34), (17, 6, 5, 30, 35), (2, 0, 0, 0, 38), (17, 6, 5, 30, 39), (17, 5, 5, 108, 42), (0, 1, 0, 0, 45), (34, 0, 0, 0, 46), (64, 15, 2, 132, 47), (2, 0, 0, 0, 50), (17, 6, 5, 30, 51), (17, 5, 5, 108, 54), (0, 1, 0, 0, 57), (34, 0, 0, 0, 58), (16, 2, 6, 136, 59), (70, 0, 0, 0, 62)] := rfl
theorem ze_C_rise (w0 w1 : Value) (G : zG) (M : zM) : z_call 94 [w0, w1] G M = z_ex 94 (z_blk 94 0) [w0, w1] [] G M := rfl
theorem zr_C_rise : z_rc 94 = 6 := rfl
theorem zk_L_rule_0 : z_blk 95 0 = [(2, 3, 0, 0, 0), (5, 0, 0, 0, 1), (2, 0, 0, 0, 2), (0, 1, 0, 0, 3), (0, 2, 0, 0, 4), (64, 96, 3, 31, 5), (57, 0, 0, 0, 8), (38, 0, 0, 0, 9), (54, 17, 0, 0, 10)] := rfl
theorem zk_L_rule_15 : z_blk 95 15 = [(5, 1, 0, 0, 15), (70, 0, 0, 0, 16)] := rfl
theorem zk_L_rule_17 : z_blk 95 17 = [(5, 0, 0, 0, 17), (70, 0, 0, 0, 18)] := rfl
theorem ze_L_rule (w0 w1 w2 w3 : Value) (G : zG) (M : zM) : z_call 95 [w0, w1, w2, w3] G M = z_ex 95 (z_blk 95 0) [w0, w1, w2, w3, .null] [] G M := rfl
theorem zk_C_rule_0 : z_blk 96 0 = [(2, 0, 0, 0, 0), (0, 1, 0, 0, 1), (0, 2, 0, 0, 2), (63, 97, 2, 139, 3), (64, 61, 2, 65, 6), (2, 0, 0, 0, 9), (64, 24, 1, 87, 10), (2, 0, 0, 0, 13), (17, 6, 5, 30, 14), (17, 5, 3, 143, 17), (0, 1, 0, 0, 20), (32, 0, 0, 0, 21), (10, 3, 0, 0, 22), (2, 0, 0, 0, 23), (17, 6, 5, 30, 24), (17, 5, 3, 143, 27), (0, 1, 0, 0, 30), (0, 2, 0, 0, 31), (33, 0, 0, 0, 32), (0, 3, 0, 0, 33), (70, 0, 0, 0, 34)] := rfl
theorem ze_C_rule (w0 w1 w2 : Value) (G : zG) (M : zM) : z_call 96 [w0, w1, w2] G M = z_ex 96 (z_blk 96 0) [w0, w1, w2, .null] [] G M := rfl
theorem zr_C_rule : z_rc 96 = 6 := rfl
theorem zk_C_isRule_0 : z_blk 97 0 = [(0, 0, 0, 0, 0), (50, 31, 4, 0, 1)] := rfl
theorem zk_C_isRule_4 : z_blk 97 4 = [(0, 0, 0, 0, 4), (5, 4, 0, 0, 5), (45, 31, 9, 0, 6)] := rfl
theorem zk_C_isRule_9 : z_blk 97 9 = [(0, 1, 0, 0, 9), (78, 2, 0, 324, 10), (0, 0, 0, 0, 13), (32, 0, 0, 0, 14), (44, 31, 18, 0, 15)] := rfl
theorem zk_C_isRule_18 : z_blk 97 18 = [(0, 1, 0, 0, 18), (78, 3, 0, 327, 19), (0, 0, 0, 0, 22), (32, 0, 0, 0, 23), (46, 31, 27, 0, 24)] := rfl
theorem zk_C_isRule_27 : z_blk 97 27 = [(5, 1, 0, 0, 27), (54, 32, 0, 0, 28)] := rfl
theorem zk_C_isRule_31 : z_blk 97 31 = [(5, 0, 0, 0, 31), (55, 32, 0, 0, 32)] := rfl
theorem zk_C_isRule_32 : z_blk 97 32 = [(72, 0, 0, 0, 32)] := rfl
theorem ze_C_isRule (w0 w1 : Value) (G : zG) (M : zM) : z_call 97 [w0, w1] G M = z_ex 97 (z_blk 97 0) [w0, w1] [] G M := rfl
theorem zr_C_isRule : z_rc 97 = 6 := rfl
theorem zk_L_told_0 : z_blk 98 0 = [(2, 2, 0, 0, 0), (5, 0, 0, 0, 1), (2, 0, 0, 0, 2), (0, 1, 0, 0, 3), (64, 99, 2, 35, 4), (57, 0, 0, 0, 7), (38, 0, 0, 0, 8), (54, 15, 0, 0, 9)] := rfl
theorem zk_L_told_13 : z_blk 98 13 = [(5, 1, 0, 0, 13), (70, 0, 0, 0, 14)] := rfl
theorem zk_L_told_15 : z_blk 98 15 = [(5, 0, 0, 0, 15), (70, 0, 0, 0, 16)] := rfl
theorem ze_L_told (w0 w1 w2 : Value) (G : zG) (M : zM) : z_call 98 [w0, w1, w2] G M = z_ex 98 (z_blk 98 0) [w0, w1, w2, .null] [] G M := rfl
theorem zk_C_told_0 : z_blk 99 0 = [(2, 0, 0, 0, 0), (0, 1, 0, 0, 1), (50, 15, 5, 0, 2)] := rfl
theorem zk_C_told_5 : z_blk 99 5 = [(0, 1, 0, 0, 5), (6, 18, 0, 0, 6), (46, 15, 11, 0, 8)] := rfl
theorem zk_C_told_11 : z_blk 99 11 = [(5, 1, 0, 0, 11), (54, 16, 0, 0, 12)] := rfl
theorem zk_C_told_15 : z_blk 99 15 = [(5, 0, 0, 0, 15), (55, 16, 0, 0, 16)] := rfl
theorem zk_C_told_16 : z_blk 99 16 = [(64, 61, 2, 65, 16), (0, 1, 0, 0, 19), (56, 2, 0, 92, 20)] := rfl
theorem zk_C_told_112 : z_blk 99 112 = [(2, 0, 0, 0, 112), (17, 6, 5, 30, 113), (16, 5, 0, 84, 116), (70, 0, 0, 0, 119)] := rfl
theorem zk_C_told_120 : z_blk 99 120 = [(2, 0, 0, 0, 120), (17, 6, 5, 30, 121), (16, 5, 1, 153, 124), (70, 0, 0, 0, 127)] := rfl
theorem zk_C_told_128 : z_blk 99 128 = [(2, 0, 0, 0, 128), (17, 6, 5, 30, 129), (16, 5, 2, 156, 132), (70, 0, 0, 0, 135)] := rfl
theorem zk_C_told_136 : z_blk 99 136 = [(2, 0, 0, 0, 136), (17, 6, 5, 30, 137), (17, 5, 6, 123, 140), (16, 1, 1, 159, 143), (70, 0, 0, 0, 146)] := rfl
theorem zk_C_told_147 : z_blk 99 147 = [(2, 0, 0, 0, 147), (17, 6, 5, 30, 148), (17, 5, 6, 123, 151), (16, 1, 3, 162, 154), (70, 0, 0, 0, 157)] := rfl
theorem zk_C_told_158 : z_blk 99 158 = [(2, 0, 0, 0, 158), (17, 6, 5, 30, 159), (63, 100, 1, 165, 162), (70, 0, 0, 0, 165)] := rfl
theorem zk_C_told_166 : z_blk 99 166 = [(2, 0, 0, 0, 166), (17, 6, 5, 30, 167), (63, 102, 1, 171, 170), (70, 0, 0, 0, 173)] := rfl
theorem zk_C_told_174 : z_blk 99 174 = [(2, 0, 0, 0, 174), (17, 6, 5, 30, 175), (63, 53, 1, 174, 178), (48, 188, 184, 0, 181)] := rfl
theorem zk_C_told_184 : z_blk 99 184 = [(5, 1, 0, 0, 184), (54, 189, 0, 0, 185)] := rfl
theorem zk_C_told_188 : z_blk 99 188 = [(5, 0, 0, 0, 188), (55, 189, 0, 0, 189)] := rfl
theorem zk_C_told_189 : z_blk 99 189 = [(70, 0, 0, 0, 189)] := rfl
theorem zk_C_told_190 : z_blk 99 190 = [(2, 0, 0, 0, 190), (17, 6, 5, 30, 191), (63, 103, 1, 178, 194), (48, 204, 200, 0, 197)] := rfl
theorem zk_C_told_200 : z_blk 99 200 = [(5, 1, 0, 0, 200), (54, 205, 0, 0, 201)] := rfl
theorem zk_C_told_204 : z_blk 99 204 = [(5, 0, 0, 0, 204), (55, 205, 0, 0, 205)] := rfl
theorem zk_C_told_205 : z_blk 99 205 = [(70, 0, 0, 0, 205)] := rfl
theorem zk_C_told_206 : z_blk 99 206 = [(2, 0, 0, 0, 206), (17, 6, 5, 30, 207), (63, 104, 1, 181, 210), (70, 0, 0, 0, 213)] := rfl
theorem zk_C_told_214 : z_blk 99 214 = [(2, 0, 0, 0, 214), (16, 6, 9, 77, 215), (70, 0, 0, 0, 218)] := rfl
theorem zk_C_told_219 : z_blk 99 219 = [(2, 0, 0, 0, 219), (16, 6, 1, 59, 220), (70, 0, 0, 0, 223)] := rfl
theorem zk_C_told_224 : z_blk 99 224 = [(2, 0, 0, 0, 224), (17, 6, 5, 30, 225), (64, 107, 1, 184, 228), (70, 0, 0, 0, 231)] := rfl
theorem zk_C_told_232 : z_blk 99 232 = [(2, 0, 0, 0, 232), (17, 6, 5, 30, 233), (5, 2, 0, 0, 236), (6, 8, 0, 0, 237), (63, 108, 3, 187, 239), (70, 0, 0, 0, 242)] := rfl
theorem zk_C_told_243 : z_blk 99 243 = [(2, 0, 0, 0, 243), (17, 6, 5, 30, 244), (5, 0, 0, 0, 247), (5, 0, 0, 0, 248), (63, 108, 3, 187, 249), (70, 0, 0, 0, 252)] := rfl
theorem zk_C_told_253 : z_blk 99 253 = [(2, 0, 0, 0, 253), (17, 6, 5, 30, 254), (17, 5, 3, 143, 257), (0, 1, 0, 0, 260), (5, 2, 0, 0, 261), (21, 0, 0, 0, 262), (32, 0, 0, 0, 263), (70, 0, 0, 0, 264)] := rfl
theorem ze_C_told (w0 w1 : Value) (G : zG) (M : zM) : z_call 99 [w0, w1] G M = z_ex 99 (z_blk 99 0) [w0, w1] [] G M := rfl
theorem zr_C_told : z_rc 99 = 6 := rfl
theorem zk_S_circles_0 : z_blk 100 0 = [(5, 0, 0, 0, 0), (10, 1, 0, 0, 1), (5, 0, 0, 0, 2), (10, 2, 0, 0, 3), (55, 4, 0, 0, 4)] := rfl
theorem zk_S_circles_4 : z_blk 100 4 = [(0, 2, 0, 0, 4), (2, 0, 0, 0, 5), (16, 5, 0, 9, 6), (45, 33, 12, 0, 9)] := rfl
theorem zk_S_circles_12 : z_blk 100 12 = [(2, 0, 0, 0, 12), (0, 2, 0, 0, 13), (63, 54, 2, 45, 14), (0, 2, 0, 0, 17), (63, 101, 2, 41, 18), (48, 27, 24, 0, 21)] := rfl
theorem zk_S_circles_24 : z_blk 100 24 = [(15, 1, 1, 0, 24), (55, 27, 0, 0, 27)] := rfl
theorem zk_S_circles_27 : z_blk 100 27 = [(15, 2, 1, 0, 27), (54, 4, 0, 0, 30)] := rfl
theorem zk_S_circles_33 : z_blk 100 33 = [(0, 1, 0, 0, 33), (70, 0, 0, 0, 34)] := rfl
theorem ze_S_circles (w0 : Value) (G : zG) (M : zM) : z_call 100 [w0] G M = z_ex 100 (z_blk 100 0) [w0, .null, .null] [] G M := rfl
theorem zk_S_isFirst_0 : z_blk 101 0 = [(0, 0, 0, 0, 0), (0, 0, 0, 0, 1), (31, 0, 0, 0, 2), (23, 0, 0, 0, 3), (5, 1, 0, 0, 4), (0, 1, 0, 0, 5), (26, 0, 0, 0, 6), (43, 14, 10, 0, 7)] := rfl
theorem zk_S_isFirst_10 : z_blk 101 10 = [(5, 1, 0, 0, 10), (54, 15, 0, 0, 11)] := rfl
theorem zk_S_isFirst_14 : z_blk 101 14 = [(5, 0, 0, 0, 14), (55, 15, 0, 0, 15)] := rfl
theorem zk_S_isFirst_15 : z_blk 101 15 = [(72, 0, 0, 0, 15)] := rfl
theorem ze_S_isFirst (w0 w1 : Value) (G : zG) (M : zM) : z_call 101 [w0, w1] G M = z_ex 101 (z_blk 101 0) [w0, w1] [] G M := rfl
theorem zk_S_sets_0 : z_blk 102 0 = [(5, 0, 0, 0, 0), (10, 1, 0, 0, 1), (5, 0, 0, 0, 2), (10, 2, 0, 0, 3), (55, 4, 0, 0, 4)] := rfl
theorem zk_S_sets_4 : z_blk 102 4 = [(0, 2, 0, 0, 4), (2, 0, 0, 0, 5), (16, 5, 0, 9, 6), (45, 33, 12, 0, 9)] := rfl
theorem zk_S_sets_12 : z_blk 102 12 = [(2, 0, 0, 0, 12), (0, 2, 0, 0, 13), (63, 55, 2, 37, 14), (0, 2, 0, 0, 17), (63, 101, 2, 41, 18), (48, 27, 24, 0, 21)] := rfl
theorem zk_S_sets_24 : z_blk 102 24 = [(15, 1, 1, 0, 24), (55, 27, 0, 0, 27)] := rfl
theorem zk_S_sets_27 : z_blk 102 27 = [(15, 2, 1, 0, 27), (54, 4, 0, 0, 30)] := rfl
theorem zk_S_sets_33 : z_blk 102 33 = [(0, 1, 0, 0, 33), (70, 0, 0, 0, 34)] := rfl
theorem ze_S_sets (w0 : Value) (G : zG) (M : zM) : z_call 102 [w0] G M = z_ex 102 (z_blk 102 0) [w0, .null, .null] [] G M := rfl
theorem zk_S_isSound_0 : z_blk 103 0 = [(5, 0, 0, 0, 0), (10, 1, 0, 0, 1), (55, 2, 0, 0, 2)] := rfl
theorem zk_S_isSound_2 : z_blk 103 2 = [(0, 1, 0, 0, 2), (2, 0, 0, 0, 3), (16, 5, 0, 9, 4), (45, 69, 10, 0, 7)] := rfl
theorem zk_S_isSound_10 : z_blk 103 10 = [(2, 0, 0, 0, 10), (0, 1, 0, 0, 11), (63, 54, 2, 45, 12), (10, 2, 0, 0, 15), (5, 0, 0, 0, 16), (10, 3, 0, 0, 17), (55, 18, 0, 0, 18)] := rfl
theorem zk_S_isSound_18 : z_blk 103 18 = [(0, 3, 0, 0, 18), (2, 0, 0, 0, 19), (16, 5, 0, 9, 20), (45, 63, 26, 0, 23)] := rfl
theorem zk_S_isSound_26 : z_blk 103 26 = [(0, 2, 0, 0, 26), (5, 1, 0, 0, 27), (0, 3, 0, 0, 28), (26, 0, 0, 0, 29), (23, 0, 0, 0, 30), (48, 57, 34, 0, 31)] := rfl
theorem zk_S_isSound_34 : z_blk 103 34 = [(2, 0, 0, 0, 34), (17, 5, 5, 15, 35), (0, 3, 0, 0, 38), (34, 0, 0, 0, 39), (16, 2, 4, 51, 40), (2, 0, 0, 0, 43), (17, 5, 5, 15, 44), (0, 1, 0, 0, 47), (34, 0, 0, 0, 48), (16, 2, 4, 51, 49), (42, 57, 55, 0, 52)] := rfl
theorem zk_S_isSound_55 : z_blk 103 55 = [(5, 0, 0, 0, 55), (72, 0, 0, 0, 56)] := rfl
theorem zk_S_isSound_57 : z_blk 103 57 = [(15, 3, 1, 0, 57), (54, 18, 0, 0, 60)] := rfl
theorem zk_S_isSound_63 : z_blk 103 63 = [(15, 1, 1, 0, 63), (54, 2, 0, 0, 66)] := rfl
theorem zk_S_isSound_69 : z_blk 103 69 = [(5, 1, 0, 0, 69), (72, 0, 0, 0, 70)] := rfl
theorem ze_S_isSound (w0 : Value) (G : zG) (M : zM) : z_call 103 [w0] G M = z_ex 103 (z_blk 103 0) [w0, .null, .null, .null] [] G M := rfl
theorem zk_S_twice_0 : z_blk 104 0 = [(5, 0, 0, 0, 0), (10, 1, 0, 0, 1), (5, 0, 0, 0, 2), (10, 2, 0, 0, 3), (55, 4, 0, 0, 4)] := rfl
theorem zk_S_twice_4 : z_blk 104 4 = [(0, 2, 0, 0, 4), (2, 0, 0, 0, 5), (16, 5, 1, 72, 6), (45, 32, 12, 0, 9)] := rfl
theorem zk_S_twice_12 : z_blk 104 12 = [(0, 1, 0, 0, 12), (2, 0, 0, 0, 13), (0, 2, 0, 0, 14), (63, 105, 2, 75, 15), (2, 0, 0, 0, 18), (0, 2, 0, 0, 19), (63, 106, 2, 78, 20), (21, 0, 0, 0, 23), (20, 0, 0, 0, 24), (10, 1, 0, 0, 25), (15, 2, 1, 0, 26), (54, 4, 0, 0, 29)] := rfl
theorem zk_S_twice_32 : z_blk 104 32 = [(0, 1, 0, 0, 32), (70, 0, 0, 0, 33)] := rfl
theorem ze_S_twice (w0 : Value) (G : zG) (M : zM) : z_call 104 [w0] G M = z_ex 104 (z_blk 104 0) [w0, .null, .null] [] G M := rfl
theorem zk_S_workOf_0 : z_blk 105 0 = [(5, 0, 0, 0, 0), (10, 2, 0, 0, 1), (5, 0, 0, 0, 2), (10, 3, 0, 0, 3), (55, 4, 0, 0, 4)] := rfl
theorem zk_S_workOf_4 : z_blk 105 4 = [(0, 3, 0, 0, 4), (2, 0, 0, 0, 5), (16, 5, 0, 9, 6), (45, 32, 12, 0, 9)] := rfl
theorem zk_S_workOf_12 : z_blk 105 12 = [(0, 2, 0, 0, 12), (2, 0, 0, 0, 13), (17, 5, 5, 15, 14), (0, 3, 0, 0, 17), (34, 0, 0, 0, 18), (17, 2, 13, 54, 19), (0, 1, 0, 0, 22), (32, 0, 0, 0, 23), (20, 0, 0, 0, 24), (10, 2, 0, 0, 25), (15, 3, 1, 0, 26), (54, 4, 0, 0, 29)] := rfl
theorem zk_S_workOf_32 : z_blk 105 32 = [(0, 2, 0, 0, 32), (70, 0, 0, 0, 33)] := rfl
theorem ze_S_workOf (w0 w1 : Value) (G : zG) (M : zM) : z_call 105 [w0, w1] G M = z_ex 105 (z_blk 105 0) [w0, w1, .null, .null] [] G M := rfl
theorem zk_S_greatestLedger_0 : z_blk 106 0 = [(5, 0, 0, 0, 0), (10, 2, 0, 0, 1), (5, 0, 0, 0, 2), (10, 3, 0, 0, 3), (55, 4, 0, 0, 4)] := rfl
theorem zk_S_greatestLedger_4 : z_blk 106 4 = [(0, 3, 0, 0, 4), (2, 0, 0, 0, 5), (16, 5, 0, 9, 6), (45, 34, 12, 0, 9)] := rfl
theorem zk_S_greatestLedger_12 : z_blk 106 12 = [(0, 2, 0, 0, 12), (2, 0, 0, 0, 13), (17, 5, 5, 15, 14), (0, 3, 0, 0, 17), (34, 0, 0, 0, 18), (17, 2, 12, 57, 19), (0, 1, 0, 0, 22), (32, 0, 0, 0, 23), (63, 46, 2, 60, 24), (10, 2, 0, 0, 27), (15, 3, 1, 0, 28), (54, 4, 0, 0, 31)] := rfl
theorem zk_S_greatestLedger_34 : z_blk 106 34 = [(0, 2, 0, 0, 34), (70, 0, 0, 0, 35)] := rfl
theorem ze_S_greatestLedger (w0 w1 : Value) (G : zG) (M : zM) : z_call 106 [w0, w1] G M = z_ex 106 (z_blk 106 0) [w0, w1, .null, .null] [] G M := rfl
theorem zk_W_changesTold_0 : z_blk 107 0 = [(2, 0, 0, 0, 0), (16, 5, 8, 79, 1), (6, 40, 0, 0, 4), (63, 63, 2, 235, 6), (70, 0, 0, 0, 9)] := rfl
theorem ze_W_changesTold (w0 : Value) (G : zG) (M : zM) : z_call 107 [w0] G M = z_ex 107 (z_blk 107 0) [w0] [] G M := rfl
theorem zr_W_changesTold : z_rc 107 = 5 := rfl
theorem zk_S_jobsHeldBy_0 : z_blk 108 0 = [(5, 0, 0, 0, 0), (10, 3, 0, 0, 1), (5, 0, 0, 0, 2), (11, 4, 0, 0, 3), (55, 5, 0, 0, 5)] := rfl
theorem zk_S_jobsHeldBy_5 : z_blk 108 5 = [(1, 4, 0, 0, 5), (2, 0, 0, 0, 7), (16, 5, 1, 72, 8), (45, 46, 14, 0, 11)] := rfl
theorem zk_S_jobsHeldBy_14 : z_blk 108 14 = [(2, 0, 0, 0, 14), (1, 4, 0, 0, 15), (63, 109, 2, 85, 17), (63, 13, 1, 88, 20), (11, 5, 0, 0, 23), (1, 5, 0, 0, 25), (0, 1, 0, 0, 27), (44, 40, 31, 0, 28)] := rfl
theorem zk_S_jobsHeldBy_31 : z_blk 108 31 = [(1, 5, 0, 0, 31), (0, 2, 0, 0, 33), (46, 40, 37, 0, 34)] := rfl
theorem zk_S_jobsHeldBy_37 : z_blk 108 37 = [(15, 3, 1, 0, 37), (55, 40, 0, 0, 40)] := rfl
theorem zk_S_jobsHeldBy_40 : z_blk 108 40 = [(15, 4, 1, 0, 40), (54, 5, 0, 0, 43)] := rfl
theorem zk_S_jobsHeldBy_46 : z_blk 108 46 = [(0, 3, 0, 0, 46), (70, 0, 0, 0, 47)] := rfl
theorem ze_S_jobsHeldBy (w0 w1 w2 : Value) (G : zG) (M : zM) : z_call 108 [w0, w1, w2] G M = z_ex 108 (z_blk 108 0) [w0, w1, w2, .null, .null, .null] [] G M := rfl
theorem zk_S_holdersOf_0 : z_blk 109 0 = [(5, 0, 0, 0, 0), (10, 2, 0, 0, 1), (5, 0, 0, 0, 2), (10, 3, 0, 0, 3), (55, 4, 0, 0, 4)] := rfl
theorem zk_S_holdersOf_4 : z_blk 109 4 = [(0, 3, 0, 0, 4), (2, 0, 0, 0, 5), (16, 5, 0, 9, 6), (45, 41, 12, 0, 9)] := rfl
theorem zk_S_holdersOf_12 : z_blk 109 12 = [(2, 0, 0, 0, 12), (2, 0, 0, 0, 13), (17, 5, 5, 15, 14), (0, 3, 0, 0, 17), (34, 0, 0, 0, 18), (64, 81, 2, 81, 19), (5, 1, 0, 0, 22), (0, 1, 0, 0, 23), (26, 0, 0, 0, 24), (23, 0, 0, 0, 25), (48, 35, 29, 0, 26)] := rfl
theorem zk_S_holdersOf_29 : z_blk 109 29 = [(0, 2, 0, 0, 29), (5, 1, 0, 0, 30), (0, 3, 0, 0, 31), (26, 0, 0, 0, 32), (24, 0, 0, 0, 33), (10, 2, 0, 0, 34), (55, 35, 0, 0, 35)] := rfl
theorem zk_S_holdersOf_35 : z_blk 109 35 = [(15, 3, 1, 0, 35), (54, 4, 0, 0, 38)] := rfl
theorem zk_S_holdersOf_41 : z_blk 109 41 = [(0, 2, 0, 0, 41), (70, 0, 0, 0, 42)] := rfl
theorem ze_S_holdersOf (w0 w1 : Value) (G : zG) (M : zM) : z_call 109 [w0, w1] G M = z_ex 109 (z_blk 109 0) [w0, w1, .null, .null] [] G M := rfl
theorem zk_L_member_0 : z_blk 110 0 = [(2, 3, 0, 0, 0), (5, 0, 0, 0, 1), (2, 0, 0, 0, 2), (0, 1, 0, 0, 3), (0, 2, 0, 0, 4), (64, 111, 3, 38, 5), (57, 0, 0, 0, 8), (38, 0, 0, 0, 9), (54, 21, 0, 0, 10)] := rfl
theorem zk_L_member_15 : z_blk 110 15 = [(5, 1, 0, 0, 15), (70, 0, 0, 0, 16)] := rfl
theorem zk_L_member_19 : z_blk 110 19 = [(5, 2, 0, 0, 19), (70, 0, 0, 0, 20)] := rfl
theorem zk_L_member_21 : z_blk 110 21 = [(5, 0, 0, 0, 21), (70, 0, 0, 0, 22)] := rfl
theorem ze_L_member (w0 w1 w2 w3 : Value) (G : zG) (M : zM) : z_call 110 [w0, w1, w2, w3] G M = z_ex 110 (z_blk 110 0) [w0, w1, w2, w3, .null] [] G M := rfl
theorem zk_C_member_0 : z_blk 111 0 = [(2, 0, 0, 0, 0), (0, 1, 0, 0, 1), (64, 88, 2, 105, 2), (2, 0, 0, 0, 5), (0, 2, 0, 0, 6), (50, 20, 10, 0, 7)] := rfl
theorem zk_C_member_10 : z_blk 111 10 = [(0, 2, 0, 0, 10), (6, 12, 0, 0, 11), (46, 20, 16, 0, 13)] := rfl
theorem zk_C_member_16 : z_blk 111 16 = [(5, 1, 0, 0, 16), (54, 21, 0, 0, 17)] := rfl
theorem zk_C_member_20 : z_blk 111 20 = [(5, 0, 0, 0, 20), (55, 21, 0, 0, 21)] := rfl
theorem zk_C_member_21 : z_blk 111 21 = [(64, 61, 2, 65, 21), (2, 0, 0, 0, 24), (17, 6, 5, 30, 25), (17, 5, 5, 108, 28), (0, 1, 0, 0, 31), (34, 0, 0, 0, 32), (12, 3, 0, 0, 33), (0, 2, 0, 0, 34), (56, 3, 0, 61, 35)] := rfl
theorem zk_C_member_96 : z_blk 111 96 = [(2, 3, 0, 0, 96), (16, 2, 1, 191, 97), (70, 0, 0, 0, 100)] := rfl
theorem zk_C_member_101 : z_blk 111 101 = [(2, 3, 0, 0, 101), (16, 2, 3, 112, 102), (70, 0, 0, 0, 105)] := rfl
theorem zk_C_member_106 : z_blk 111 106 = [(2, 3, 0, 0, 106), (16, 2, 4, 194, 107), (70, 0, 0, 0, 110)] := rfl
theorem zk_C_member_111 : z_blk 111 111 = [(2, 3, 0, 0, 111), (16, 2, 5, 197, 112), (70, 0, 0, 0, 115)] := rfl
theorem zk_C_member_116 : z_blk 111 116 = [(2, 3, 0, 0, 116), (16, 2, 6, 136, 117), (70, 0, 0, 0, 120)] := rfl
theorem zk_C_member_121 : z_blk 111 121 = [(2, 3, 0, 0, 121), (16, 2, 7, 200, 122), (70, 0, 0, 0, 125)] := rfl
theorem zk_C_member_126 : z_blk 111 126 = [(2, 3, 0, 0, 126), (16, 2, 8, 203, 127), (70, 0, 0, 0, 130)] := rfl
theorem zk_C_member_131 : z_blk 111 131 = [(2, 3, 0, 0, 131), (16, 2, 10, 206, 132), (70, 0, 0, 0, 135)] := rfl
theorem zk_C_member_136 : z_blk 111 136 = [(2, 3, 0, 0, 136), (16, 2, 10, 206, 137), (49, 147, 143, 0, 140)] := rfl
theorem zk_C_member_143 : z_blk 111 143 = [(5, 0, 0, 0, 143), (54, 159, 0, 0, 144)] := rfl
theorem zk_C_member_147 : z_blk 111 147 = [(2, 3, 0, 0, 147), (16, 2, 11, 209, 148), (2, 0, 0, 0, 151), (17, 6, 5, 30, 152), (16, 5, 2, 156, 155), (21, 0, 0, 0, 158), (55, 159, 0, 0, 159)] := rfl
theorem zk_C_member_159 : z_blk 111 159 = [(70, 0, 0, 0, 159)] := rfl
theorem zk_C_member_160 : z_blk 111 160 = [(2, 0, 0, 0, 160), (17, 6, 5, 30, 161), (2, 3, 0, 0, 164), (64, 81, 2, 212, 165), (70, 0, 0, 0, 168)] := rfl
theorem zk_C_member_169 : z_blk 111 169 = [(2, 0, 0, 0, 169), (17, 6, 5, 30, 170), (0, 1, 0, 0, 173), (63, 55, 2, 216, 174), (70, 0, 0, 0, 177)] := rfl
theorem zk_C_member_178 : z_blk 111 178 = [(2, 0, 0, 0, 178), (17, 6, 5, 30, 179), (0, 1, 0, 0, 182), (63, 54, 2, 220, 183), (70, 0, 0, 0, 186)] := rfl
theorem zk_C_member_187 : z_blk 111 187 = [(2, 3, 0, 0, 187), (16, 2, 9, 223, 188), (70, 0, 0, 0, 191)] := rfl
theorem ze_C_member (w0 w1 w2 : Value) (G : zG) (M : zM) : z_call 111 [w0, w1, w2] G M = z_ex 111 (z_blk 111 0) [w0, w1, w2, .null] [] G M := rfl
theorem zr_C_member : z_rc 111 = 6 := rfl
theorem zk_L_units_0 : z_blk 112 0 = [(3, 4, 0, 0, 0), (5, 0, 0, 0, 2), (2, 0, 0, 0, 3), (0, 1, 0, 0, 4), (0, 2, 0, 0, 5), (0, 3, 0, 0, 6), (64, 113, 4, 41, 7), (57, 0, 0, 0, 10), (38, 0, 0, 0, 11), (54, 23, 0, 0, 12)] := rfl
theorem zk_L_units_17 : z_blk 112 17 = [(5, 1, 0, 0, 17), (70, 0, 0, 0, 18)] := rfl
theorem zk_L_units_21 : z_blk 112 21 = [(5, 2, 0, 0, 21), (70, 0, 0, 0, 22)] := rfl
theorem zk_L_units_23 : z_blk 112 23 = [(5, 0, 0, 0, 23), (70, 0, 0, 0, 24)] := rfl
theorem ze_L_units (w0 w1 w2 w3 w4 : Value) (G : zG) (M : zM) : z_call 112 [w0, w1, w2, w3, w4] G M = z_ex 112 (z_blk 112 0) [w0, w1, w2, w3, w4, .null] [] G M := rfl
theorem zk_C_units_0 : z_blk 113 0 = [(2, 0, 0, 0, 0), (0, 1, 0, 0, 1), (64, 88, 2, 105, 2), (2, 0, 0, 0, 5), (0, 2, 0, 0, 6), (64, 114, 2, 226, 7), (2, 0, 0, 0, 10), (0, 3, 0, 0, 11), (48, 20, 15, 0, 12)] := rfl
theorem zk_C_units_15 : z_blk 113 15 = [(0, 3, 0, 0, 15), (5, 1, 0, 0, 16), (43, 24, 20, 0, 17)] := rfl
theorem zk_C_units_20 : z_blk 113 20 = [(5, 1, 0, 0, 20), (54, 25, 0, 0, 21)] := rfl
theorem zk_C_units_24 : z_blk 113 24 = [(5, 0, 0, 0, 24), (55, 25, 0, 0, 25)] := rfl
theorem zk_C_units_25 : z_blk 113 25 = [(64, 61, 2, 65, 25), (2, 0, 0, 0, 28), (17, 6, 5, 30, 29), (17, 5, 5, 108, 32), (0, 1, 0, 0, 35), (34, 0, 0, 0, 36), (13, 4, 0, 0, 37), (0, 3, 0, 0, 39), (49, 53, 43, 0, 40)] := rfl
theorem zk_C_units_43 : z_blk 113 43 = [(3, 4, 0, 0, 43), (17, 2, 12, 229, 45), (0, 2, 0, 0, 48), (32, 0, 0, 0, 49), (54, 60, 0, 0, 50)] := rfl
theorem zk_C_units_53 : z_blk 113 53 = [(3, 4, 0, 0, 53), (17, 2, 13, 232, 55), (0, 2, 0, 0, 58), (32, 0, 0, 0, 59), (55, 60, 0, 0, 60)] := rfl
theorem zk_C_units_60 : z_blk 113 60 = [(70, 0, 0, 0, 60)] := rfl
theorem ze_C_units (w0 w1 w2 w3 : Value) (G : zG) (M : zM) : z_call 113 [w0, w1, w2, w3] G M = z_ex 113 (z_blk 113 0) [w0, w1, w2, w3, .null] [] G M := rfl
theorem zr_C_units : z_rc 113 = 6 := rfl
theorem zk_C_needJob_0 : z_blk 114 0 = [(2, 0, 0, 0, 0), (0, 1, 0, 0, 1), (50, 20, 5, 0, 2)] := rfl
theorem zk_C_needJob_5 : z_blk 114 5 = [(0, 1, 0, 0, 5), (2, 0, 0, 0, 6), (17, 6, 5, 30, 7), (16, 5, 1, 153, 10), (45, 20, 16, 0, 13)] := rfl
theorem zk_C_needJob_16 : z_blk 114 16 = [(5, 1, 0, 0, 16), (54, 21, 0, 0, 17)] := rfl
theorem zk_C_needJob_20 : z_blk 114 20 = [(5, 0, 0, 0, 20), (55, 21, 0, 0, 21)] := rfl
theorem zk_C_needJob_21 : z_blk 114 21 = [(64, 89, 2, 250, 21), (69, 0, 0, 0, 24)] := rfl
theorem ze_C_needJob (w0 w1 : Value) (G : zG) (M : zM) : z_call 114 [w0, w1] G M = z_ex 114 (z_blk 114 0) [w0, w1] [] G M := rfl
theorem zr_C_needJob : z_rc 114 = 6 := rfl
theorem zk_L_job_0 : z_blk 115 0 = [(2, 3, 0, 0, 0), (5, 0, 0, 0, 1), (2, 0, 0, 0, 2), (0, 1, 0, 0, 3), (0, 2, 0, 0, 4), (64, 116, 3, 45, 5), (57, 0, 0, 0, 8), (38, 0, 0, 0, 9), (54, 21, 0, 0, 10)] := rfl
theorem zk_L_job_15 : z_blk 115 15 = [(5, 1, 0, 0, 15), (70, 0, 0, 0, 16)] := rfl
theorem zk_L_job_19 : z_blk 115 19 = [(5, 2, 0, 0, 19), (70, 0, 0, 0, 20)] := rfl
theorem zk_L_job_21 : z_blk 115 21 = [(5, 0, 0, 0, 21), (70, 0, 0, 0, 22)] := rfl
theorem ze_L_job (w0 w1 w2 w3 : Value) (G : zG) (M : zM) : z_call 115 [w0, w1, w2, w3] G M = z_ex 115 (z_blk 115 0) [w0, w1, w2, w3, .null] [] G M := rfl
theorem zk_C_job_0 : z_blk 116 0 = [(2, 0, 0, 0, 0), (0, 1, 0, 0, 1), (64, 114, 2, 226, 2), (2, 0, 0, 0, 5), (0, 2, 0, 0, 6), (50, 19, 10, 0, 7)] := rfl
theorem zk_C_job_10 : z_blk 116 10 = [(0, 2, 0, 0, 10), (5, 3, 0, 0, 11), (46, 19, 15, 0, 12)] := rfl
theorem zk_C_job_15 : z_blk 116 15 = [(5, 1, 0, 0, 15), (54, 20, 0, 0, 16)] := rfl
theorem zk_C_job_19 : z_blk 116 19 = [(5, 0, 0, 0, 19), (55, 20, 0, 0, 20)] := rfl
theorem zk_C_job_20 : z_blk 116 20 = [(64, 61, 2, 65, 20), (0, 2, 0, 0, 23), (56, 4, 0, 28, 24)] := rfl
theorem zk_C_job_52 : z_blk 116 52 = [(2, 0, 0, 0, 52), (17, 6, 5, 30, 53), (0, 1, 0, 0, 56), (63, 105, 2, 235, 57), (70, 0, 0, 0, 60)] := rfl
theorem zk_C_job_61 : z_blk 116 61 = [(2, 0, 0, 0, 61), (17, 6, 5, 30, 62), (0, 1, 0, 0, 65), (63, 106, 2, 238, 66), (70, 0, 0, 0, 69)] := rfl
theorem zk_C_job_70 : z_blk 116 70 = [(2, 0, 0, 0, 70), (17, 6, 5, 30, 71), (0, 1, 0, 0, 74), (63, 117, 2, 241, 75), (70, 0, 0, 0, 78)] := rfl
theorem zk_C_job_79 : z_blk 116 79 = [(2, 0, 0, 0, 79), (17, 6, 5, 30, 80), (0, 1, 0, 0, 83), (63, 109, 2, 244, 84), (70, 0, 0, 0, 87)] := rfl
theorem ze_C_job (w0 w1 w2 : Value) (G : zG) (M : zM) : z_call 116 [w0, w1, w2] G M = z_ex 116 (z_blk 116 0) [w0, w1, w2] [] G M := rfl
theorem zr_C_job : z_rc 116 = 6 := rfl
theorem zk_S_leastLedger_0 : z_blk 117 0 = [(8, 2147483647, 0, 68, 0), (10, 2, 0, 0, 2), (5, 0, 0, 0, 3), (10, 3, 0, 0, 4), (55, 5, 0, 0, 5)] := rfl
theorem zk_S_leastLedger_5 : z_blk 117 5 = [(0, 3, 0, 0, 5), (2, 0, 0, 0, 6), (16, 5, 0, 9, 7), (45, 35, 13, 0, 10)] := rfl
theorem zk_S_leastLedger_13 : z_blk 117 13 = [(0, 2, 0, 0, 13), (2, 0, 0, 0, 14), (17, 5, 5, 15, 15), (0, 3, 0, 0, 18), (34, 0, 0, 0, 19), (17, 2, 12, 57, 20), (0, 1, 0, 0, 23), (32, 0, 0, 0, 24), (63, 63, 2, 69, 25), (10, 2, 0, 0, 28), (15, 3, 1, 0, 29), (54, 5, 0, 0, 32)] := rfl
theorem zk_S_leastLedger_35 : z_blk 117 35 = [(0, 2, 0, 0, 35), (70, 0, 0, 0, 36)] := rfl
theorem ze_S_leastLedger (w0 w1 : Value) (G : zG) (M : zM) : z_call 117 [w0, w1] G M = z_ex 117 (z_blk 117 0) [w0, w1, .null, .null] [] G M := rfl
theorem zk_L_link_0 : z_blk 118 0 = [(2, 3, 0, 0, 0), (5, 0, 0, 0, 1), (2, 0, 0, 0, 2), (0, 1, 0, 0, 3), (0, 2, 0, 0, 4), (64, 119, 3, 48, 5), (48, 15, 11, 0, 8)] := rfl
theorem zk_L_link_11 : z_blk 118 11 = [(62, 1, 0, 0, 11), (54, 16, 0, 0, 12)] := rfl
theorem zk_L_link_15 : z_blk 118 15 = [(62, 0, 0, 0, 15), (55, 16, 0, 0, 16)] := rfl
theorem zk_L_link_16 : z_blk 118 16 = [(38, 0, 0, 0, 16), (54, 28, 0, 0, 17)] := rfl
theorem zk_L_link_22 : z_blk 118 22 = [(5, 1, 0, 0, 22), (70, 0, 0, 0, 23)] := rfl
theorem zk_L_link_26 : z_blk 118 26 = [(5, 2, 0, 0, 26), (70, 0, 0, 0, 27)] := rfl
theorem zk_L_link_28 : z_blk 118 28 = [(5, 0, 0, 0, 28), (70, 0, 0, 0, 29)] := rfl
theorem ze_L_link (w0 w1 w2 w3 : Value) (G : zG) (M : zM) : z_call 118 [w0, w1, w2, w3] G M = z_ex 118 (z_blk 118 0) [w0, w1, w2, w3, .null] [] G M := rfl
theorem zk_C_link_0 : z_blk 119 0 = [(2, 0, 0, 0, 0), (0, 1, 0, 0, 1), (64, 88, 2, 105, 2), (2, 0, 0, 0, 5), (0, 2, 0, 0, 6), (64, 88, 2, 105, 7), (2, 0, 0, 0, 10), (0, 1, 0, 0, 11), (0, 2, 0, 0, 12), (42, 20, 16, 0, 13)] := rfl
theorem zk_C_link_16 : z_blk 119 16 = [(5, 1, 0, 0, 16), (54, 21, 0, 0, 17)] := rfl
theorem zk_C_link_20 : z_blk 119 20 = [(5, 0, 0, 0, 20), (55, 21, 0, 0, 21)] := rfl
theorem zk_C_link_21 : z_blk 119 21 = [(64, 61, 2, 65, 21), (2, 0, 0, 0, 24), (17, 6, 5, 30, 25), (17, 5, 4, 247, 28), (0, 1, 0, 0, 31), (32, 0, 0, 0, 32), (5, 1, 0, 0, 33), (0, 2, 0, 0, 34), (26, 0, 0, 0, 35), (23, 0, 0, 0, 36), (48, 44, 40, 0, 37)] := rfl
theorem zk_C_link_40 : z_blk 119 40 = [(5, 1, 0, 0, 40), (54, 45, 0, 0, 41)] := rfl
theorem zk_C_link_44 : z_blk 119 44 = [(5, 0, 0, 0, 44), (55, 45, 0, 0, 45)] := rfl
theorem zk_C_link_45 : z_blk 119 45 = [(72, 0, 0, 0, 45)] := rfl
theorem ze_C_link (w0 w1 w2 : Value) (G : zG) (M : zM) : z_call 119 [w0, w1, w2] G M = z_ex 119 (z_blk 119 0) [w0, w1, w2] [] G M := rfl
theorem zr_C_link : z_rc 119 = 6 := rfl
theorem zk_L_letter_0 : z_blk 120 0 = [(2, 3, 0, 0, 0), (5, 0, 0, 0, 1), (2, 0, 0, 0, 2), (0, 1, 0, 0, 3), (0, 2, 0, 0, 4), (64, 121, 3, 52, 5), (57, 0, 0, 0, 8), (38, 0, 0, 0, 9), (54, 21, 0, 0, 10)] := rfl
theorem zk_L_letter_15 : z_blk 120 15 = [(5, 1, 0, 0, 15), (70, 0, 0, 0, 16)] := rfl
theorem zk_L_letter_19 : z_blk 120 19 = [(5, 2, 0, 0, 19), (70, 0, 0, 0, 20)] := rfl
theorem zk_L_letter_21 : z_blk 120 21 = [(5, 0, 0, 0, 21), (70, 0, 0, 0, 22)] := rfl
theorem ze_L_letter (w0 w1 w2 w3 : Value) (G : zG) (M : zM) : z_call 120 [w0, w1, w2, w3] G M = z_ex 120 (z_blk 120 0) [w0, w1, w2, w3, .null] [] G M := rfl
theorem zk_C_letter_0 : z_blk 121 0 = [(2, 0, 0, 0, 0), (0, 1, 0, 0, 1), (50, 23, 5, 0, 2)] := rfl
theorem zk_C_letter_5 : z_blk 121 5 = [(0, 1, 0, 0, 5), (2, 0, 0, 0, 6), (17, 6, 5, 30, 7), (17, 5, 6, 123, 10), (16, 1, 1, 159, 13), (45, 23, 19, 0, 16)] := rfl
theorem zk_C_letter_19 : z_blk 121 19 = [(5, 1, 0, 0, 19), (54, 24, 0, 0, 20)] := rfl
theorem zk_C_letter_23 : z_blk 121 23 = [(5, 0, 0, 0, 23), (55, 24, 0, 0, 24)] := rfl
theorem zk_C_letter_24 : z_blk 121 24 = [(64, 89, 2, 250, 24), (2, 0, 0, 0, 27), (0, 2, 0, 0, 28), (50, 42, 32, 0, 29)] := rfl
theorem zk_C_letter_32 : z_blk 121 32 = [(0, 2, 0, 0, 32), (6, 6, 0, 0, 33), (46, 42, 38, 0, 35)] := rfl
theorem zk_C_letter_38 : z_blk 121 38 = [(5, 1, 0, 0, 38), (54, 43, 0, 0, 39)] := rfl
theorem zk_C_letter_42 : z_blk 121 42 = [(5, 0, 0, 0, 42), (55, 43, 0, 0, 43)] := rfl
theorem zk_C_letter_43 : z_blk 121 43 = [(64, 61, 2, 65, 43), (2, 0, 0, 0, 46), (17, 6, 5, 30, 47), (17, 5, 6, 123, 50), (0, 1, 0, 0, 53), (5, 2, 0, 0, 54), (64, 35, 3, 253, 55), (10, 3, 0, 0, 58), (0, 2, 0, 0, 59), (56, 5, 0, 40, 60)] := rfl
theorem zk_C_letter_100 : z_blk 121 100 = [(2, 0, 0, 0, 100), (17, 6, 5, 30, 101), (17, 5, 6, 123, 104), (0, 1, 0, 0, 107), (5, 0, 0, 0, 108), (64, 35, 3, 253, 109), (70, 0, 0, 0, 112)] := rfl
theorem zk_C_letter_113 : z_blk 121 113 = [(2, 0, 0, 0, 113), (17, 6, 5, 30, 114), (17, 5, 6, 123, 117), (0, 1, 0, 0, 120), (5, 1, 0, 0, 121), (64, 35, 3, 253, 122), (70, 0, 0, 0, 125)] := rfl
theorem zk_C_letter_126 : z_blk 121 126 = [(0, 3, 0, 0, 126), (70, 0, 0, 0, 127)] := rfl
theorem zk_C_letter_128 : z_blk 121 128 = [(2, 0, 0, 0, 128), (17, 6, 5, 30, 129), (17, 5, 6, 123, 132), (0, 1, 0, 0, 135), (5, 3, 0, 0, 136), (64, 35, 3, 253, 137), (2, 0, 0, 0, 140), (17, 6, 5, 30, 141), (16, 5, 2, 156, 144), (21, 0, 0, 0, 147), (70, 0, 0, 0, 148)] := rfl
theorem zk_C_letter_149 : z_blk 121 149 = [(2, 0, 0, 0, 149), (17, 6, 5, 30, 150), (17, 5, 6, 123, 153), (0, 1, 0, 0, 156), (5, 4, 0, 0, 157), (64, 35, 3, 253, 158), (70, 0, 0, 0, 161)] := rfl
theorem zk_C_letter_162 : z_blk 121 162 = [(0, 3, 0, 0, 162), (5, 5, 0, 0, 163), (43, 182, 167, 0, 164)] := rfl
theorem zk_C_letter_167 : z_blk 121 167 = [(2, 0, 0, 0, 167), (17, 6, 5, 30, 168), (17, 5, 6, 123, 171), (0, 1, 0, 0, 174), (5, 5, 0, 0, 175), (64, 35, 3, 253, 176), (54, 183, 0, 0, 179)] := rfl
theorem zk_C_letter_182 : z_blk 121 182 = [(5, 4294967295, 0, 0, 182), (55, 183, 0, 0, 183)] := rfl
theorem zk_C_letter_183 : z_blk 121 183 = [(70, 0, 0, 0, 183)] := rfl
theorem zk_C_letter_184 : z_blk 121 184 = [(0, 3, 0, 0, 184), (6, 7, 0, 0, 185), (43, 205, 190, 0, 187)] := rfl
theorem zk_C_letter_190 : z_blk 121 190 = [(2, 0, 0, 0, 190), (17, 6, 5, 30, 191), (17, 5, 6, 123, 194), (0, 1, 0, 0, 197), (5, 5, 0, 0, 198), (64, 35, 3, 253, 199), (54, 206, 0, 0, 202)] := rfl
theorem zk_C_letter_205 : z_blk 121 205 = [(5, 4294967295, 0, 0, 205), (55, 206, 0, 0, 206)] := rfl
theorem zk_C_letter_206 : z_blk 121 206 = [(70, 0, 0, 0, 206)] := rfl
theorem ze_C_letter (w0 w1 w2 : Value) (G : zG) (M : zM) : z_call 121 [w0, w1, w2] G M = z_ex 121 (z_blk 121 0) [w0, w1, w2, .null] [] G M := rfl
theorem zr_C_letter : z_rc 121 = 6 := rfl
theorem zk_L_sent_0 : z_blk 122 0 = [(2, 3, 0, 0, 0), (5, 0, 0, 0, 1), (2, 0, 0, 0, 2), (0, 1, 0, 0, 3), (0, 2, 0, 0, 4), (64, 123, 3, 55, 5), (57, 0, 0, 0, 8), (38, 0, 0, 0, 9), (54, 17, 0, 0, 10)] := rfl
theorem zk_L_sent_15 : z_blk 122 15 = [(5, 1, 0, 0, 15), (70, 0, 0, 0, 16)] := rfl
theorem zk_L_sent_17 : z_blk 122 17 = [(5, 0, 0, 0, 17), (70, 0, 0, 0, 18)] := rfl
theorem ze_L_sent (w0 w1 w2 w3 : Value) (G : zG) (M : zM) : z_call 122 [w0, w1, w2, w3] G M = z_ex 122 (z_blk 122 0) [w0, w1, w2, w3, .null] [] G M := rfl
theorem zk_C_sent_0 : z_blk 123 0 = [(2, 0, 0, 0, 0), (0, 1, 0, 0, 1), (50, 24, 5, 0, 2)] := rfl
theorem zk_C_sent_5 : z_blk 123 5 = [(0, 1, 0, 0, 5), (6, 8, 0, 0, 6), (45, 24, 11, 0, 8)] := rfl
theorem zk_C_sent_11 : z_blk 123 11 = [(0, 2, 0, 0, 11), (48, 20, 15, 0, 12)] := rfl
theorem zk_C_sent_15 : z_blk 123 15 = [(0, 2, 0, 0, 15), (5, 1, 0, 0, 16), (43, 24, 20, 0, 17)] := rfl
theorem zk_C_sent_20 : z_blk 123 20 = [(5, 1, 0, 0, 20), (54, 25, 0, 0, 21)] := rfl
theorem zk_C_sent_24 : z_blk 123 24 = [(5, 0, 0, 0, 24), (55, 25, 0, 0, 25)] := rfl
theorem zk_C_sent_25 : z_blk 123 25 = [(64, 61, 2, 65, 25), (0, 2, 0, 0, 28), (49, 47, 32, 0, 29)] := rfl
theorem zk_C_sent_32 : z_blk 123 32 = [(2, 0, 0, 0, 32), (17, 6, 5, 30, 33), (17, 5, 6, 123, 36), (17, 1, 4, 257, 39), (0, 1, 0, 0, 42), (32, 0, 0, 0, 43), (54, 59, 0, 0, 44)] := rfl
theorem zk_C_sent_47 : z_blk 123 47 = [(2, 0, 0, 0, 47), (17, 6, 5, 30, 48), (17, 5, 6, 123, 51), (17, 1, 5, 260, 54), (0, 1, 0, 0, 57), (32, 0, 0, 0, 58), (55, 59, 0, 0, 59)] := rfl
theorem zk_C_sent_59 : z_blk 123 59 = [(70, 0, 0, 0, 59)] := rfl
theorem ze_C_sent (w0 w1 w2 : Value) (G : zG) (M : zM) : z_call 123 [w0, w1, w2] G M = z_ex 123 (z_blk 123 0) [w0, w1, w2] [] G M := rfl
theorem zr_C_sent : z_rc 123 = 6 := rfl
theorem zk_L_tally_0 : z_blk 124 0 = [(2, 3, 0, 0, 0), (5, 0, 0, 0, 1), (2, 0, 0, 0, 2), (0, 1, 0, 0, 3), (0, 2, 0, 0, 4), (64, 125, 3, 58, 5), (57, 0, 0, 0, 8), (38, 0, 0, 0, 9), (54, 21, 0, 0, 10)] := rfl
theorem zk_L_tally_15 : z_blk 124 15 = [(5, 1, 0, 0, 15), (70, 0, 0, 0, 16)] := rfl
theorem zk_L_tally_19 : z_blk 124 19 = [(5, 2, 0, 0, 19), (70, 0, 0, 0, 20)] := rfl
theorem zk_L_tally_21 : z_blk 124 21 = [(5, 0, 0, 0, 21), (70, 0, 0, 0, 22)] := rfl
theorem ze_L_tally (w0 w1 w2 w3 : Value) (G : zG) (M : zM) : z_call 124 [w0, w1, w2, w3] G M = z_ex 124 (z_blk 124 0) [w0, w1, w2, w3, .null] [] G M := rfl
theorem zk_C_tally_0 : z_blk 125 0 = [(2, 0, 0, 0, 0), (0, 1, 0, 0, 1), (64, 88, 2, 105, 2), (2, 0, 0, 0, 5), (0, 2, 0, 0, 6), (50, 20, 10, 0, 7)] := rfl
theorem zk_C_tally_10 : z_blk 125 10 = [(0, 2, 0, 0, 10), (6, 7, 0, 0, 11), (45, 20, 16, 0, 13)] := rfl
theorem zk_C_tally_16 : z_blk 125 16 = [(5, 1, 0, 0, 16), (54, 21, 0, 0, 17)] := rfl
theorem zk_C_tally_20 : z_blk 125 20 = [(5, 0, 0, 0, 20), (55, 21, 0, 0, 21)] := rfl
theorem zk_C_tally_21 : z_blk 125 21 = [(64, 61, 2, 65, 21), (2, 0, 0, 0, 24), (17, 6, 5, 30, 25), (17, 5, 5, 108, 28), (0, 1, 0, 0, 31), (34, 0, 0, 0, 32), (17, 2, 14, 263, 33), (0, 2, 0, 0, 36), (32, 0, 0, 0, 37), (70, 0, 0, 0, 38)] := rfl
theorem ze_C_tally (w0 w1 w2 : Value) (G : zG) (M : zM) : z_call 125 [w0, w1, w2] G M = z_ex 125 (z_blk 125 0) [w0, w1, w2] [] G M := rfl
theorem zr_C_tally : z_rc 125 = 6 := rfl
theorem zk_L_change_0 : z_blk 126 0 = [(2, 3, 0, 0, 0), (5, 0, 0, 0, 1), (2, 0, 0, 0, 2), (0, 1, 0, 0, 3), (0, 2, 0, 0, 4), (64, 127, 3, 61, 5), (57, 0, 0, 0, 8), (38, 0, 0, 0, 9), (54, 21, 0, 0, 10)] := rfl
theorem zk_L_change_15 : z_blk 126 15 = [(5, 1, 0, 0, 15), (70, 0, 0, 0, 16)] := rfl
theorem zk_L_change_19 : z_blk 126 19 = [(5, 2, 0, 0, 19), (70, 0, 0, 0, 20)] := rfl
theorem zk_L_change_21 : z_blk 126 21 = [(5, 0, 0, 0, 21), (70, 0, 0, 0, 22)] := rfl
theorem ze_L_change (w0 w1 w2 w3 : Value) (G : zG) (M : zM) : z_call 126 [w0, w1, w2, w3] G M = z_ex 126 (z_blk 126 0) [w0, w1, w2, w3, .null] [] G M := rfl
theorem zk_C_change_0 : z_blk 127 0 = [(2, 0, 0, 0, 0), (0, 1, 0, 0, 1), (50, 20, 5, 0, 2)] := rfl
theorem zk_C_change_5 : z_blk 127 5 = [(0, 1, 0, 0, 5), (2, 0, 0, 0, 6), (17, 6, 5, 30, 7), (64, 107, 1, 184, 10), (45, 20, 16, 0, 13)] := rfl
theorem zk_C_change_16 : z_blk 127 16 = [(5, 1, 0, 0, 16), (54, 21, 0, 0, 17)] := rfl
theorem zk_C_change_20 : z_blk 127 20 = [(5, 0, 0, 0, 20), (55, 21, 0, 0, 21)] := rfl
theorem zk_C_change_21 : z_blk 127 21 = [(64, 89, 2, 250, 21), (2, 0, 0, 0, 24), (0, 2, 0, 0, 25), (50, 38, 29, 0, 26)] := rfl
theorem zk_C_change_29 : z_blk 127 29 = [(0, 2, 0, 0, 29), (5, 4, 0, 0, 30), (45, 38, 34, 0, 31)] := rfl
theorem zk_C_change_34 : z_blk 127 34 = [(5, 1, 0, 0, 34), (54, 39, 0, 0, 35)] := rfl
theorem zk_C_change_38 : z_blk 127 38 = [(5, 0, 0, 0, 38), (55, 39, 0, 0, 39)] := rfl
theorem zk_C_change_39 : z_blk 127 39 = [(64, 61, 2, 65, 39), (2, 0, 0, 0, 42), (17, 6, 5, 30, 43), (0, 1, 0, 0, 46), (0, 2, 0, 0, 47), (64, 128, 3, 266, 48), (70, 0, 0, 0, 51)] := rfl
theorem ze_C_change (w0 w1 w2 : Value) (G : zG) (M : zM) : z_call 127 [w0, w1, w2] G M = z_ex 127 (z_blk 127 0) [w0, w1, w2] [] G M := rfl
theorem zr_C_change : z_rc 127 = 6 := rfl
theorem zk_W_changeField_0 : z_blk 128 0 = [(2, 0, 0, 0, 0), (16, 5, 8, 79, 1), (2, 0, 0, 0, 4), (64, 107, 1, 238, 5), (21, 0, 0, 0, 8), (0, 1, 0, 0, 9), (20, 0, 0, 0, 10), (6, 40, 0, 0, 11), (30, 0, 0, 0, 13), (10, 3, 0, 0, 14), (2, 0, 0, 0, 15), (17, 5, 7, 31, 16), (0, 3, 0, 0, 19), (5, 4, 0, 0, 20), (22, 0, 0, 0, 21), (0, 2, 0, 0, 22), (20, 0, 0, 0, 23), (32, 0, 0, 0, 24), (70, 0, 0, 0, 25)] := rfl
theorem ze_W_changeField (w0 w1 w2 : Value) (G : zG) (M : zM) : z_call 128 [w0, w1, w2] G M = z_ex 128 (z_blk 128 0) [w0, w1, w2, .null] [] G M := rfl
theorem zr_W_changeField : z_rc 128 = 5 := rfl
theorem zk_L_ranked_0 : z_blk 129 0 = [(2, 3, 0, 0, 0), (5, 0, 0, 0, 1), (2, 0, 0, 0, 2), (0, 1, 0, 0, 3), (0, 2, 0, 0, 4), (64, 130, 3, 64, 5), (57, 0, 0, 0, 8), (38, 0, 0, 0, 9), (54, 17, 0, 0, 10)] := rfl
theorem zk_L_ranked_15 : z_blk 129 15 = [(5, 1, 0, 0, 15), (70, 0, 0, 0, 16)] := rfl
theorem zk_L_ranked_17 : z_blk 129 17 = [(5, 0, 0, 0, 17), (70, 0, 0, 0, 18)] := rfl
theorem ze_L_ranked (w0 w1 w2 w3 : Value) (G : zG) (M : zM) : z_call 129 [w0, w1, w2, w3] G M = z_ex 129 (z_blk 129 0) [w0, w1, w2, w3, .null] [] G M := rfl
theorem zk_C_ranked_0 : z_blk 130 0 = [(2, 0, 0, 0, 0), (0, 1, 0, 0, 1), (64, 88, 2, 105, 2), (2, 0, 0, 0, 5), (17, 6, 5, 30, 6), (2, 0, 0, 0, 9), (17, 6, 5, 30, 10), (0, 1, 0, 0, 13), (63, 54, 2, 220, 14), (0, 2, 0, 0, 17), (63, 131, 3, 272, 18), (70, 0, 0, 0, 21)] := rfl
theorem ze_C_ranked (w0 w1 w2 : Value) (G : zG) (M : zM) : z_call 130 [w0, w1, w2] G M = z_ex 130 (z_blk 130 0) [w0, w1, w2] [] G M := rfl
theorem zr_C_ranked : z_rc 130 = 6 := rfl
theorem zk_S_atPlace_0 : z_blk 131 0 = [(5, 0, 0, 0, 0), (10, 3, 0, 0, 1), (55, 2, 0, 0, 2)] := rfl
theorem zk_S_atPlace_2 : z_blk 131 2 = [(0, 3, 0, 0, 2), (2, 0, 0, 0, 3), (16, 5, 0, 9, 4), (45, 44, 10, 0, 7)] := rfl
theorem zk_S_atPlace_10 : z_blk 131 10 = [(0, 1, 0, 0, 10), (5, 1, 0, 0, 11), (0, 3, 0, 0, 12), (26, 0, 0, 0, 13), (23, 0, 0, 0, 14), (48, 38, 18, 0, 15)] := rfl
theorem zk_S_atPlace_18 : z_blk 131 18 = [(0, 1, 0, 0, 18), (2, 0, 0, 0, 19), (17, 5, 5, 15, 20), (0, 3, 0, 0, 23), (34, 0, 0, 0, 24), (16, 2, 2, 96, 25), (23, 0, 0, 0, 28), (63, 13, 1, 88, 29), (0, 2, 0, 0, 32), (43, 38, 36, 0, 33)] := rfl
theorem zk_S_atPlace_36 : z_blk 131 36 = [(0, 3, 0, 0, 36), (70, 0, 0, 0, 37)] := rfl
theorem zk_S_atPlace_38 : z_blk 131 38 = [(15, 3, 1, 0, 38), (54, 2, 0, 0, 41)] := rfl
theorem zk_S_atPlace_44 : z_blk 131 44 = [(5, 4294967295, 0, 0, 44), (70, 0, 0, 0, 45)] := rfl
theorem ze_S_atPlace (w0 w1 w2 : Value) (G : zG) (M : zM) : z_call 131 [w0, w1, w2] G M = z_ex 131 (z_blk 131 0) [w0, w1, w2, .null] [] G M := rfl
theorem zk_L_untilBy_0 : z_blk 132 0 = [(2, 2, 0, 0, 0), (5, 0, 0, 0, 1), (2, 0, 0, 0, 2), (0, 1, 0, 0, 3), (64, 133, 2, 67, 4), (57, 0, 0, 0, 7), (38, 0, 0, 0, 8), (54, 15, 0, 0, 9)] := rfl
theorem zk_L_untilBy_13 : z_blk 132 13 = [(5, 1, 0, 0, 13), (70, 0, 0, 0, 14)] := rfl
theorem zk_L_untilBy_15 : z_blk 132 15 = [(5, 0, 0, 0, 15), (70, 0, 0, 0, 16)] := rfl
theorem ze_L_untilBy (w0 w1 w2 : Value) (G : zG) (M : zM) : z_call 132 [w0, w1, w2] G M = z_ex 132 (z_blk 132 0) [w0, w1, w2, .null] [] G M := rfl
theorem zk_C_untilBy_0 : z_blk 133 0 = [(2, 0, 0, 0, 0), (0, 1, 0, 0, 1), (64, 88, 2, 105, 2), (2, 0, 0, 0, 5), (17, 6, 6, 34, 6), (2, 0, 0, 0, 9), (17, 6, 5, 30, 10), (64, 25, 2, 149, 13), (2, 0, 0, 0, 16), (17, 6, 6, 34, 17), (0, 1, 0, 0, 20), (64, 134, 2, 278, 21), (2, 0, 0, 0, 24), (17, 6, 6, 34, 25), (63, 33, 1, 275, 28), (70, 0, 0, 0, 31)] := rfl
theorem ze_C_untilBy (w0 w1 : Value) (G : zG) (M : zM) : z_call 133 [w0, w1] G M = z_ex 133 (z_blk 133 0) [w0, w1] [] G M := rfl
theorem zr_C_untilBy : z_rc 133 = 6 := rfl
theorem zk_W_turn_0 : z_blk 134 0 = [(2, 0, 0, 0, 0), (17, 5, 5, 20, 1), (0, 1, 0, 0, 4), (34, 0, 0, 0, 5), (16, 2, 3, 97, 6), (5, 2, 0, 0, 9), (43, 26, 13, 0, 10)] := rfl
theorem zk_W_turn_13 : z_blk 134 13 = [(2, 0, 0, 0, 13), (2, 0, 0, 0, 14), (17, 5, 5, 20, 15), (0, 1, 0, 0, 18), (34, 0, 0, 0, 19), (64, 15, 2, 75, 20), (54, 31, 0, 0, 23)] := rfl
theorem zk_W_turn_26 : z_blk 134 26 = [(2, 0, 0, 0, 26), (0, 1, 0, 0, 27), (64, 91, 2, 103, 28), (55, 31, 0, 0, 31)] := rfl
theorem zk_W_turn_31 : z_blk 134 31 = [(69, 0, 0, 0, 31)] := rfl
theorem ze_W_turn (w0 w1 : Value) (G : zG) (M : zM) : z_call 134 [w0, w1] G M = z_ex 134 (z_blk 134 0) [w0, w1] [] G M := rfl
theorem zr_W_turn : z_rc 134 = 5 := rfl
theorem zk_L_hardest_0 : z_blk 135 0 = [(2, 2, 0, 0, 0), (5, 0, 0, 0, 1), (2, 0, 0, 0, 2), (0, 1, 0, 0, 3), (64, 136, 2, 70, 4), (57, 0, 0, 0, 7), (38, 0, 0, 0, 8), (54, 15, 0, 0, 9)] := rfl
theorem zk_L_hardest_13 : z_blk 135 13 = [(5, 1, 0, 0, 13), (70, 0, 0, 0, 14)] := rfl
theorem zk_L_hardest_15 : z_blk 135 15 = [(5, 0, 0, 0, 15), (70, 0, 0, 0, 16)] := rfl
theorem ze_L_hardest (w0 w1 w2 : Value) (G : zG) (M : zM) : z_call 135 [w0, w1, w2] G M = z_ex 135 (z_blk 135 0) [w0, w1, w2, .null] [] G M := rfl
theorem zk_C_hardest_0 : z_blk 136 0 = [(2, 0, 0, 0, 0), (0, 1, 0, 0, 1), (48, 10, 5, 0, 2)] := rfl
theorem zk_C_hardest_5 : z_blk 136 5 = [(0, 1, 0, 0, 5), (5, 1, 0, 0, 6), (43, 14, 10, 0, 7)] := rfl
theorem zk_C_hardest_10 : z_blk 136 10 = [(5, 1, 0, 0, 10), (54, 15, 0, 0, 11)] := rfl
theorem zk_C_hardest_14 : z_blk 136 14 = [(5, 0, 0, 0, 14), (55, 15, 0, 0, 15)] := rfl
theorem zk_C_hardest_15 : z_blk 136 15 = [(64, 61, 2, 65, 15), (5, 4294967295, 0, 0, 18), (10, 2, 0, 0, 19), (5, 4294967295, 0, 0, 20), (10, 3, 0, 0, 21), (5, 0, 0, 0, 22), (11, 4, 0, 0, 23), (55, 25, 0, 0, 25)] := rfl
theorem zk_C_hardest_25 : z_blk 136 25 = [(1, 4, 0, 0, 25), (2, 0, 0, 0, 27), (17, 6, 5, 30, 28), (16, 5, 0, 84, 31), (45, 109, 37, 0, 34)] := rfl
theorem zk_C_hardest_37 : z_blk 136 37 = [(2, 0, 0, 0, 37), (17, 6, 5, 30, 38), (17, 5, 5, 108, 41), (1, 4, 0, 0, 44), (34, 0, 0, 0, 46), (16, 2, 3, 112, 47), (5, 2, 0, 0, 50), (42, 103, 54, 0, 51)] := rfl
theorem zk_C_hardest_54 : z_blk 136 54 = [(2, 0, 0, 0, 54), (17, 6, 6, 34, 55), (2, 0, 0, 0, 58), (17, 6, 5, 30, 59), (64, 25, 2, 149, 62), (2, 0, 0, 0, 65), (17, 6, 6, 34, 66), (1, 4, 0, 0, 69), (64, 91, 2, 120, 71), (2, 0, 0, 0, 74), (17, 6, 6, 34, 75), (63, 33, 1, 275, 78), (11, 5, 0, 0, 81), (0, 2, 0, 0, 83), (5, 4294967295, 0, 0, 84), (42, 97, 88, 0, 85)] := rfl
theorem zk_C_hardest_88 : z_blk 136 88 = [(1, 5, 0, 0, 88), (0, 3, 0, 0, 90), (63, 137, 2, 281, 91), (48, 103, 97, 0, 94)] := rfl
theorem zk_C_hardest_97 : z_blk 136 97 = [(1, 4, 0, 0, 97), (10, 2, 0, 0, 99), (1, 5, 0, 0, 100), (10, 3, 0, 0, 102), (55, 103, 0, 0, 103)] := rfl
theorem zk_C_hardest_103 : z_blk 136 103 = [(15, 4, 1, 0, 103), (54, 25, 0, 0, 106)] := rfl
theorem zk_C_hardest_109 : z_blk 136 109 = [(0, 1, 0, 0, 109), (49, 117, 113, 0, 110)] := rfl
theorem zk_C_hardest_113 : z_blk 136 113 = [(0, 2, 0, 0, 113), (54, 118, 0, 0, 114)] := rfl
theorem zk_C_hardest_117 : z_blk 136 117 = [(0, 3, 0, 0, 117), (55, 118, 0, 0, 118)] := rfl
theorem zk_C_hardest_118 : z_blk 136 118 = [(70, 0, 0, 0, 118)] := rfl
theorem ze_C_hardest (w0 w1 : Value) (G : zG) (M : zM) : z_call 136 [w0, w1] G M = z_ex 136 (z_blk 136 0) [w0, w1, .null, .null, .null, .null] [] G M := rfl
theorem zr_C_hardest : z_rc 136 = 6 := rfl
theorem zk_C_isLonger_0 : z_blk 137 0 = [(0, 1, 0, 0, 0), (5, 4294967295, 0, 0, 1), (42, 19, 5, 0, 2)] := rfl
theorem zk_C_isLonger_5 : z_blk 137 5 = [(0, 0, 0, 0, 5), (5, 4294967295, 0, 0, 6), (42, 15, 10, 0, 7)] := rfl
theorem zk_C_isLonger_10 : z_blk 137 10 = [(0, 0, 0, 0, 10), (0, 1, 0, 0, 11), (47, 19, 15, 0, 12)] := rfl
theorem zk_C_isLonger_15 : z_blk 137 15 = [(5, 1, 0, 0, 15), (54, 20, 0, 0, 16)] := rfl
theorem zk_C_isLonger_19 : z_blk 137 19 = [(5, 0, 0, 0, 19), (55, 20, 0, 0, 20)] := rfl
theorem zk_C_isLonger_20 : z_blk 137 20 = [(72, 0, 0, 0, 20)] := rfl
theorem ze_C_isLonger (w0 w1 : Value) (G : zG) (M : zM) : z_call 137 [w0, w1] G M = z_ex 137 (z_blk 137 0) [w0, w1] [] G M := rfl
theorem zr_C_isLonger : z_rc 137 = 6 := rfl
theorem zk_L_untilRule_0 : z_blk 138 0 = [(2, 3, 0, 0, 0), (5, 0, 0, 0, 1), (2, 0, 0, 0, 2), (0, 1, 0, 0, 3), (0, 2, 0, 0, 4), (64, 139, 3, 73, 5), (57, 0, 0, 0, 8), (38, 0, 0, 0, 9), (54, 17, 0, 0, 10)] := rfl
theorem zk_L_untilRule_15 : z_blk 138 15 = [(5, 1, 0, 0, 15), (70, 0, 0, 0, 16)] := rfl
theorem zk_L_untilRule_17 : z_blk 138 17 = [(5, 0, 0, 0, 17), (70, 0, 0, 0, 18)] := rfl
theorem ze_L_untilRule (w0 w1 w2 w3 : Value) (G : zG) (M : zM) : z_call 138 [w0, w1, w2, w3] G M = z_ex 138 (z_blk 138 0) [w0, w1, w2, w3, .null] [] G M := rfl
theorem zk_C_untilRule_0 : z_blk 139 0 = [(2, 0, 0, 0, 0), (0, 1, 0, 0, 1), (0, 2, 0, 0, 2), (63, 97, 2, 139, 3), (64, 61, 2, 65, 6), (2, 0, 0, 0, 9), (17, 6, 6, 34, 10), (2, 0, 0, 0, 13), (17, 6, 5, 30, 14), (64, 25, 2, 149, 17), (2, 0, 0, 0, 20), (17, 6, 6, 34, 21), (17, 5, 3, 143, 24), (0, 1, 0, 0, 27), (0, 2, 0, 0, 28), (33, 0, 0, 0, 29), (2, 0, 0, 0, 30), (17, 6, 6, 34, 31), (63, 33, 1, 275, 34), (70, 0, 0, 0, 37)] := rfl
theorem ze_C_untilRule (w0 w1 w2 : Value) (G : zG) (M : zM) : z_call 139 [w0, w1, w2] G M = z_ex 139 (z_blk 139 0) [w0, w1, w2] [] G M := rfl
theorem zr_C_untilRule : z_rc 139 = 6 := rfl
theorem zk_L_untilLinks_0 : z_blk 140 0 = [(2, 3, 0, 0, 0), (5, 0, 0, 0, 1), (2, 0, 0, 0, 2), (0, 1, 0, 0, 3), (0, 2, 0, 0, 4), (64, 141, 3, 76, 5), (57, 0, 0, 0, 8), (38, 0, 0, 0, 9), (54, 17, 0, 0, 10)] := rfl
theorem zk_L_untilLinks_15 : z_blk 140 15 = [(5, 1, 0, 0, 15), (70, 0, 0, 0, 16)] := rfl
theorem zk_L_untilLinks_17 : z_blk 140 17 = [(5, 0, 0, 0, 17), (70, 0, 0, 0, 18)] := rfl
theorem ze_L_untilLinks (w0 w1 w2 w3 : Value) (G : zG) (M : zM) : z_call 140 [w0, w1, w2, w3] G M = z_ex 140 (z_blk 140 0) [w0, w1, w2, w3, .null] [] G M := rfl
theorem zk_C_untilLinks_0 : z_blk 141 0 = [(2, 0, 0, 0, 0), (0, 1, 0, 0, 1), (48, 21, 5, 0, 2)] := rfl
theorem zk_C_untilLinks_5 : z_blk 141 5 = [(0, 1, 0, 0, 5), (5, 1, 0, 0, 6), (43, 25, 10, 0, 7)] := rfl
theorem zk_C_untilLinks_10 : z_blk 141 10 = [(2, 0, 0, 0, 10), (17, 6, 5, 30, 11), (0, 2, 0, 0, 14), (64, 84, 2, 94, 15), (48, 25, 21, 0, 18)] := rfl
theorem zk_C_untilLinks_21 : z_blk 141 21 = [(5, 1, 0, 0, 21), (54, 26, 0, 0, 22)] := rfl
theorem zk_C_untilLinks_25 : z_blk 141 25 = [(5, 0, 0, 0, 25), (55, 26, 0, 0, 26)] := rfl
theorem zk_C_untilLinks_26 : z_blk 141 26 = [(64, 61, 2, 65, 26), (2, 0, 0, 0, 29), (17, 6, 6, 34, 30), (2, 0, 0, 0, 33), (17, 6, 5, 30, 34), (64, 25, 2, 149, 37), (0, 1, 0, 0, 40), (49, 55, 44, 0, 41)] := rfl
theorem zk_C_untilLinks_44 : z_blk 141 44 = [(2, 0, 0, 0, 44), (17, 6, 6, 34, 45), (64, 11, 1, 101, 48), (41, 0, 0, 0, 51), (54, 64, 0, 0, 52)] := rfl
theorem zk_C_untilLinks_55 : z_blk 141 55 = [(2, 0, 0, 0, 55), (17, 6, 6, 34, 56), (0, 2, 0, 0, 59), (64, 85, 2, 98, 60), (41, 0, 0, 0, 63), (55, 64, 0, 0, 64)] := rfl
theorem zk_C_untilLinks_64 : z_blk 141 64 = [(2, 0, 0, 0, 64), (17, 6, 6, 34, 65), (63, 33, 1, 275, 68), (70, 0, 0, 0, 71)] := rfl
theorem ze_C_untilLinks (w0 w1 w2 : Value) (G : zG) (M : zM) : z_call 141 [w0, w1, w2] G M = z_ex 141 (z_blk 141 0) [w0, w1, w2] [] G M := rfl
theorem zr_C_untilLinks : z_rc 141 = 6 := rfl
theorem zk_L_ahead_0 : z_blk 142 0 = [(2, 3, 0, 0, 0), (5, 0, 0, 0, 1), (2, 0, 0, 0, 2), (0, 1, 0, 0, 3), (0, 2, 0, 0, 4), (64, 143, 3, 79, 5), (57, 0, 0, 0, 8), (38, 0, 0, 0, 9), (54, 17, 0, 0, 10)] := rfl
theorem zk_L_ahead_15 : z_blk 142 15 = [(5, 1, 0, 0, 15), (70, 0, 0, 0, 16)] := rfl
theorem zk_L_ahead_17 : z_blk 142 17 = [(5, 0, 0, 0, 17), (70, 0, 0, 0, 18)] := rfl
theorem ze_L_ahead (w0 w1 w2 w3 : Value) (G : zG) (M : zM) : z_call 142 [w0, w1, w2, w3] G M = z_ex 142 (z_blk 142 0) [w0, w1, w2, w3, .null] [] G M := rfl
theorem zk_C_ahead_0 : z_blk 143 0 = [(2, 0, 0, 0, 0), (0, 1, 0, 0, 1), (5, 1, 0, 0, 2), (44, 25, 6, 0, 3)] := rfl
theorem zk_C_ahead_6 : z_blk 143 6 = [(0, 1, 0, 0, 6), (6, 100, 0, 0, 7), (46, 25, 12, 0, 9)] := rfl
theorem zk_C_ahead_12 : z_blk 143 12 = [(0, 2, 0, 0, 12), (50, 25, 16, 0, 13)] := rfl
theorem zk_C_ahead_16 : z_blk 143 16 = [(0, 2, 0, 0, 16), (5, 4, 0, 0, 17), (46, 25, 21, 0, 18)] := rfl
theorem zk_C_ahead_21 : z_blk 143 21 = [(5, 1, 0, 0, 21), (54, 26, 0, 0, 22)] := rfl
theorem zk_C_ahead_25 : z_blk 143 25 = [(5, 0, 0, 0, 25), (55, 26, 0, 0, 26)] := rfl
theorem zk_C_ahead_26 : z_blk 143 26 = [(64, 61, 2, 65, 26), (2, 0, 0, 0, 29), (17, 6, 6, 34, 30), (2, 0, 0, 0, 33), (17, 6, 5, 30, 34), (64, 25, 2, 149, 37), (2, 0, 0, 0, 40), (17, 6, 6, 34, 41), (0, 1, 0, 0, 44), (64, 78, 2, 90, 45), (10, 3, 0, 0, 48), (0, 2, 0, 0, 49), (56, 6, 0, 30, 50)] := rfl
theorem zk_C_ahead_80 : z_blk 143 80 = [(2, 0, 0, 0, 80), (17, 6, 6, 34, 81), (63, 100, 1, 165, 84), (70, 0, 0, 0, 87)] := rfl
theorem zk_C_ahead_88 : z_blk 143 88 = [(2, 0, 0, 0, 88), (17, 6, 6, 34, 89), (63, 104, 1, 181, 92), (70, 0, 0, 0, 95)] := rfl
theorem zk_C_ahead_96 : z_blk 143 96 = [(2, 0, 0, 0, 96), (17, 6, 6, 34, 97), (17, 5, 6, 123, 100), (16, 1, 3, 162, 103), (70, 0, 0, 0, 106)] := rfl
theorem zk_C_ahead_107 : z_blk 143 107 = [(0, 3, 0, 0, 107), (70, 0, 0, 0, 108)] := rfl
theorem zk_C_ahead_109 : z_blk 143 109 = [(2, 0, 0, 0, 109), (17, 6, 6, 34, 110), (63, 144, 1, 284, 113), (70, 0, 0, 0, 116)] := rfl
theorem ze_C_ahead (w0 w1 w2 : Value) (G : zG) (M : zM) : z_call 143 [w0, w1, w2] G M = z_ex 143 (z_blk 143 0) [w0, w1, w2, .null] [] G M := rfl
theorem zr_C_ahead : z_rc 143 = 6 := rfl
theorem zk_S_chiefOfMost_0 : z_blk 144 0 = [(5, 4294967295, 0, 0, 0), (10, 1, 0, 0, 1), (5, 0, 0, 0, 2), (10, 2, 0, 0, 3), (5, 0, 0, 0, 4), (10, 3, 0, 0, 5), (55, 6, 0, 0, 6)] := rfl
theorem zk_S_chiefOfMost_6 : z_blk 144 6 = [(0, 3, 0, 0, 6), (2, 0, 0, 0, 7), (16, 5, 0, 9, 8), (45, 82, 14, 0, 11)] := rfl
theorem zk_S_chiefOfMost_14 : z_blk 144 14 = [(5, 0, 0, 0, 14), (11, 4, 0, 0, 15), (5, 0, 0, 0, 17), (11, 5, 0, 0, 18), (55, 20, 0, 0, 20)] := rfl
theorem zk_S_chiefOfMost_20 : z_blk 144 20 = [(1, 5, 0, 0, 20), (2, 0, 0, 0, 22), (16, 5, 0, 9, 23), (45, 65, 29, 0, 26)] := rfl
theorem zk_S_chiefOfMost_29 : z_blk 144 29 = [(2, 0, 0, 0, 29), (17, 5, 5, 15, 30), (1, 5, 0, 0, 33), (34, 0, 0, 0, 35), (16, 2, 3, 19, 36), (49, 59, 42, 0, 39)] := rfl
theorem zk_S_chiefOfMost_42 : z_blk 144 42 = [(2, 0, 0, 0, 42), (17, 5, 5, 15, 43), (1, 5, 0, 0, 46), (34, 0, 0, 0, 48), (16, 2, 4, 51, 49), (0, 3, 0, 0, 52), (43, 59, 56, 0, 53)] := rfl
theorem zk_S_chiefOfMost_56 : z_blk 144 56 = [(15, 4, 1, 0, 56), (55, 59, 0, 0, 59)] := rfl
theorem zk_S_chiefOfMost_59 : z_blk 144 59 = [(15, 5, 1, 0, 59), (54, 20, 0, 0, 62)] := rfl
theorem zk_S_chiefOfMost_65 : z_blk 144 65 = [(1, 4, 0, 0, 65), (0, 2, 0, 0, 67), (47, 76, 71, 0, 68)] := rfl
theorem zk_S_chiefOfMost_71 : z_blk 144 71 = [(1, 4, 0, 0, 71), (10, 2, 0, 0, 73), (0, 3, 0, 0, 74), (10, 1, 0, 0, 75), (55, 76, 0, 0, 76)] := rfl
theorem zk_S_chiefOfMost_76 : z_blk 144 76 = [(15, 3, 1, 0, 76), (54, 6, 0, 0, 79)] := rfl
theorem zk_S_chiefOfMost_82 : z_blk 144 82 = [(0, 1, 0, 0, 82), (70, 0, 0, 0, 83)] := rfl
theorem ze_S_chiefOfMost (w0 : Value) (G : zG) (M : zM) : z_call 144 [w0] G M = z_ex 144 (z_blk 144 0) [w0, .null, .null, .null, .null, .null] [] G M := rfl
theorem zk_L_storms_0 : z_blk 145 0 = [(3, 4, 0, 0, 0), (5, 0, 0, 0, 2), (2, 0, 0, 0, 3), (0, 1, 0, 0, 4), (0, 2, 0, 0, 5), (0, 3, 0, 0, 6), (64, 146, 4, 82, 7), (57, 0, 0, 0, 10), (38, 0, 0, 0, 11), (54, 19, 0, 0, 12)] := rfl
theorem zk_L_storms_17 : z_blk 145 17 = [(5, 1, 0, 0, 17), (70, 0, 0, 0, 18)] := rfl
theorem zk_L_storms_19 : z_blk 145 19 = [(5, 0, 0, 0, 19), (70, 0, 0, 0, 20)] := rfl
theorem ze_L_storms (w0 w1 w2 w3 w4 : Value) (G : zG) (M : zM) : z_call 145 [w0, w1, w2, w3, w4] G M = z_ex 145 (z_blk 145 0) [w0, w1, w2, w3, w4, .null] [] G M := rfl
theorem zk_C_storms_0 : z_blk 146 0 = [(2, 0, 0, 0, 0), (0, 1, 0, 0, 1), (5, 1, 0, 0, 2), (44, 25, 6, 0, 3)] := rfl
theorem zk_C_storms_6 : z_blk 146 6 = [(0, 1, 0, 0, 6), (6, 20, 0, 0, 7), (46, 25, 12, 0, 9)] := rfl
theorem zk_C_storms_12 : z_blk 146 12 = [(0, 3, 0, 0, 12), (50, 25, 16, 0, 13)] := rfl
theorem zk_C_storms_16 : z_blk 146 16 = [(0, 3, 0, 0, 16), (5, 2, 0, 0, 17), (46, 25, 21, 0, 18)] := rfl
theorem zk_C_storms_21 : z_blk 146 21 = [(5, 1, 0, 0, 21), (54, 26, 0, 0, 22)] := rfl
theorem zk_C_storms_25 : z_blk 146 25 = [(5, 0, 0, 0, 25), (55, 26, 0, 0, 26)] := rfl
theorem zk_C_storms_26 : z_blk 146 26 = [(64, 61, 2, 65, 26), (5, 0, 0, 0, 29), (11, 4, 0, 0, 30), (5, 0, 0, 0, 32), (11, 5, 0, 0, 33), (5, 0, 0, 0, 35), (11, 6, 0, 0, 36), (5, 0, 0, 0, 38), (11, 7, 0, 0, 39), (55, 41, 0, 0, 41)] := rfl
theorem zk_C_storms_41 : z_blk 146 41 = [(1, 7, 0, 0, 41), (0, 1, 0, 0, 43), (45, 120, 47, 0, 44)] := rfl
theorem zk_C_storms_47 : z_blk 146 47 = [(2, 0, 0, 0, 47), (17, 6, 10, 44, 48), (0, 2, 0, 0, 51), (1, 7, 0, 0, 52), (20, 0, 0, 0, 54), (18, 0, 0, 287, 55), (2, 0, 0, 0, 58), (17, 6, 6, 34, 59), (2, 0, 0, 0, 62), (17, 6, 5, 30, 63), (64, 25, 2, 149, 66), (2, 0, 0, 0, 69), (17, 6, 6, 34, 70), (2, 0, 0, 0, 73), (17, 6, 10, 44, 74), (63, 147, 2, 290, 77), (2, 0, 0, 0, 80), (17, 6, 6, 34, 81), (63, 33, 1, 275, 84), (11, 8, 0, 0, 87), (1, 8, 0, 0, 89), (5, 4294967295, 0, 0, 91), (42, 114, 95, 0, 92)] := rfl
theorem zk_C_storms_95 : z_blk 146 95 = [(15, 4, 1, 0, 95), (1, 5, 0, 0, 98), (1, 8, 0, 0, 100), (63, 46, 2, 294, 102), (11, 5, 0, 0, 105), (1, 6, 0, 0, 107), (1, 8, 0, 0, 109), (20, 0, 0, 0, 111), (11, 6, 0, 0, 112), (55, 114, 0, 0, 114)] := rfl
theorem zk_C_storms_114 : z_blk 146 114 = [(15, 7, 1, 0, 114), (54, 41, 0, 0, 117)] := rfl
theorem zk_C_storms_120 : z_blk 146 120 = [(0, 3, 0, 0, 120), (49, 129, 124, 0, 121)] := rfl
theorem zk_C_storms_124 : z_blk 146 124 = [(1, 4, 0, 0, 124), (54, 141, 0, 0, 126)] := rfl
theorem zk_C_storms_129 : z_blk 146 129 = [(0, 3, 0, 0, 129), (5, 1, 0, 0, 130), (43, 139, 134, 0, 131)] := rfl
theorem zk_C_storms_134 : z_blk 146 134 = [(1, 5, 0, 0, 134), (54, 141, 0, 0, 136)] := rfl
theorem zk_C_storms_139 : z_blk 146 139 = [(1, 6, 0, 0, 139), (55, 141, 0, 0, 141)] := rfl
theorem zk_C_storms_141 : z_blk 146 141 = [(70, 0, 0, 0, 141)] := rfl
theorem ze_C_storms (w0 w1 w2 w3 : Value) (G : zG) (M : zM) : z_call 146 [w0, w1, w2, w3] G M = z_ex 146 (z_blk 146 0) [w0, w1, w2, w3, .null, .null, .null, .null, .null] [] G M := rfl
theorem zr_C_storms : z_rc 146 = 6 := rfl
theorem zk_C_storm_0 : z_blk 147 0 = [(5, 0, 0, 0, 0), (10, 2, 0, 0, 1), (55, 2, 0, 0, 2)] := rfl
theorem zk_C_storm_2 : z_blk 147 2 = [(0, 2, 0, 0, 2), (6, 8, 0, 0, 3), (45, 93, 8, 0, 5)] := rfl
theorem zk_C_storm_8 : z_blk 147 8 = [(2, 1, 0, 0, 8), (5, 4, 0, 0, 9), (64, 148, 2, 299, 10), (10, 3, 0, 0, 13), (0, 3, 0, 0, 14), (49, 33, 18, 0, 15)] := rfl
theorem zk_C_storm_18 : z_blk 147 18 = [(2, 0, 0, 0, 18), (2, 1, 0, 0, 19), (2, 0, 0, 0, 20), (16, 5, 0, 84, 21), (64, 148, 2, 299, 24), (64, 134, 2, 278, 27), (54, 61, 0, 0, 30)] := rfl
theorem zk_C_storm_33 : z_blk 147 33 = [(0, 3, 0, 0, 33), (5, 1, 0, 0, 34), (43, 56, 38, 0, 35)] := rfl
theorem zk_C_storm_38 : z_blk 147 38 = [(2, 0, 0, 0, 38), (2, 1, 0, 0, 39), (5, 1, 0, 0, 40), (2, 0, 0, 0, 41), (16, 5, 0, 84, 42), (26, 0, 0, 0, 45), (64, 148, 2, 299, 46), (64, 85, 2, 98, 49), (41, 0, 0, 0, 52), (54, 61, 0, 0, 53)] := rfl
theorem zk_C_storm_56 : z_blk 147 56 = [(2, 0, 0, 0, 56), (64, 11, 1, 101, 57), (41, 0, 0, 0, 60), (55, 61, 0, 0, 61)] := rfl
theorem zk_C_storm_61 : z_blk 147 61 = [(2, 1, 0, 0, 61), (6, 12, 0, 0, 62), (64, 148, 2, 299, 64), (5, 1, 0, 0, 67), (20, 0, 0, 0, 68), (11, 4, 0, 0, 69), (55, 71, 0, 0, 71)] := rfl
theorem zk_C_storm_71 : z_blk 147 71 = [(1, 4, 0, 0, 71), (53, 87, 76, 0, 73)] := rfl
theorem zk_C_storm_76 : z_blk 147 76 = [(2, 0, 0, 0, 76), (64, 34, 1, 302, 77), (41, 0, 0, 0, 80), (15, 4, 4294967295, 0, 81), (54, 71, 0, 0, 84)] := rfl
theorem zk_C_storm_87 : z_blk 147 87 = [(15, 2, 1, 0, 87), (54, 2, 0, 0, 90)] := rfl
theorem zk_C_storm_93 : z_blk 147 93 = [(2, 0, 0, 0, 93), (64, 11, 1, 101, 94), (41, 0, 0, 0, 97), (5, 0, 0, 0, 98), (10, 2, 0, 0, 99), (55, 100, 0, 0, 100)] := rfl
theorem zk_C_storm_100 : z_blk 147 100 = [(0, 2, 0, 0, 100), (2, 0, 0, 0, 101), (16, 5, 0, 84, 102), (45, 137, 108, 0, 105)] := rfl
theorem zk_C_storm_108 : z_blk 147 108 = [(2, 0, 0, 0, 108), (17, 5, 5, 108, 109), (0, 2, 0, 0, 112), (34, 0, 0, 0, 113), (16, 2, 3, 112, 114), (5, 2, 0, 0, 117), (43, 131, 121, 0, 118)] := rfl
theorem zk_C_storm_121 : z_blk 147 121 = [(2, 0, 0, 0, 121), (2, 0, 0, 0, 122), (17, 5, 5, 108, 123), (0, 2, 0, 0, 126), (34, 0, 0, 0, 127), (64, 15, 2, 132, 128), (55, 131, 0, 0, 131)] := rfl
theorem zk_C_storm_131 : z_blk 147 131 = [(15, 2, 1, 0, 131), (54, 100, 0, 0, 134)] := rfl
theorem zk_C_storm_137 : z_blk 147 137 = [(69, 0, 0, 0, 137)] := rfl
theorem ze_C_storm (w0 w1 : Value) (G : zG) (M : zM) : z_call 147 [w0, w1] G M = z_ex 147 (z_blk 147 0) [w0, w1, .null, .null, .null] [] G M := rfl
theorem zr_C_storm : z_rc 147 = 6 := rfl
theorem zk_D_next_0 : z_blk 148 0 = [(2, 0, 0, 0, 0), (8, 1103515245, 0, 7, 1), (2, 0, 0, 0, 3), (16, 0, 0, 8, 4), (22, 0, 0, 0, 7), (7, 12345, 0, 0, 8), (20, 0, 0, 0, 11), (18, 0, 0, 8, 12), (0, 1, 0, 0, 15), (53, 31, 19, 0, 16)] := rfl
theorem zk_D_next_19 : z_blk 148 19 = [(2, 0, 0, 0, 19), (16, 0, 0, 8, 20), (6, 16, 0, 0, 23), (28, 0, 0, 0, 25), (0, 1, 0, 0, 26), (30, 0, 0, 0, 27), (54, 32, 0, 0, 28)] := rfl
theorem zk_D_next_31 : z_blk 148 31 = [(5, 0, 0, 0, 31), (55, 32, 0, 0, 32)] := rfl
theorem zk_D_next_32 : z_blk 148 32 = [(70, 0, 0, 0, 32)] := rfl
theorem ze_D_next (w0 w1 : Value) (G : zG) (M : zM) : z_call 148 [w0, w1] G M = z_ex 148 (z_blk 148 0) [w0, w1] [] G M := rfl
theorem zr_D_next : z_rc 148 = 0 := rfl
theorem zk_M_init_0 : z_blk 149 0 = [(2, 0, 0, 0, 0), (68, 0, 0, 3, 1), (2, 0, 0, 0, 4), (5, 3, 0, 0, 5), (74, 0, 0, 0, 6), (19, 7, 1, 9, 8), (2, 0, 0, 0, 11), (5, 4294967295, 0, 0, 12), (18, 7, 5, 13, 13), (2, 0, 0, 0, 16), (7, 200, 0, 0, 17), (74, 0, 0, 0, 20), (19, 7, 8, 17, 22), (2, 0, 0, 0, 25), (7, 4326, 0, 0, 26), (74, 0, 0, 0, 29), (19, 7, 9, 20, 31), (2, 0, 0, 0, 34), (7, 4326, 0, 0, 35), (74, 0, 0, 0, 38), (19, 7, 10, 23, 40), (2, 0, 0, 0, 43), (7, 4326, 0, 0, 44), (74, 0, 0, 0, 47), (19, 7, 11, 26, 49), (2, 0, 0, 0, 52), (7, 4326, 0, 0, 53), (74, 0, 0, 0, 56), (19, 7, 12, 29, 58), (2, 0, 0, 0, 61), (6, 8, 0, 0, 62), (7, 4326, 0, 0, 64), (77, 0, 0, 32, 67), (19, 7, 13, 34, 71), (2, 0, 0, 0, 74), (6, 13, 0, 0, 75), (74, 0, 0, 0, 77), (19, 7, 17, 37, 79), (2, 0, 0, 0, 82), (5, 2, 0, 0, 83), (64, 150, 2, 40, 84), (2, 0, 0, 0, 87), (2, 0, 0, 0, 88), (17, 7, 10, 23, 89), (64, 151, 2, 44, 92), (69, 0, 0, 0, 95)] := rfl
theorem ze_M_init (w0 : Value) (G : zG) (M : zM) : z_call 149 [w0] G M = z_ex 149 (z_blk 149 0) [w0] [] G M := rfl
theorem zr_M_init : z_rc 149 = 7 := rfl
theorem zk_M_freshDraft_0 : z_blk 150 0 = [(5, 0, 0, 0, 0), (10, 2, 0, 0, 1), (55, 2, 0, 0, 2)] := rfl
theorem zk_M_freshDraft_2 : z_blk 150 2 = [(0, 2, 0, 0, 2), (7, 4326, 0, 0, 3), (45, 22, 9, 0, 6)] := rfl
theorem zk_M_freshDraft_9 : z_blk 150 9 = [(2, 0, 0, 0, 9), (17, 7, 10, 23, 10), (0, 2, 0, 0, 13), (5, 0, 0, 0, 14), (33, 0, 0, 0, 15), (15, 2, 1, 0, 16), (54, 2, 0, 0, 19)] := rfl
theorem zk_M_freshDraft_22 : z_blk 150 22 = [(2, 0, 0, 0, 22), (17, 7, 10, 23, 23), (5, 0, 0, 0, 26), (0, 1, 0, 0, 27), (33, 0, 0, 0, 28), (2, 0, 0, 0, 29), (17, 7, 10, 23, 30), (5, 1, 0, 0, 33), (5, 3, 0, 0, 34), (33, 0, 0, 0, 35), (2, 0, 0, 0, 36), (17, 7, 10, 23, 37), (5, 2, 0, 0, 40), (6, 8, 0, 0, 41), (33, 0, 0, 0, 43), (2, 0, 0, 0, 44), (17, 7, 10, 23, 45), (5, 3, 0, 0, 48), (5, 4, 0, 0, 49), (33, 0, 0, 0, 50), (2, 0, 0, 0, 51), (17, 7, 10, 23, 52), (5, 4, 0, 0, 55), (5, 3, 0, 0, 56), (33, 0, 0, 0, 57), (2, 0, 0, 0, 58), (17, 7, 10, 23, 59), (5, 5, 0, 0, 62), (5, 1, 0, 0, 63), (33, 0, 0, 0, 64), (5, 0, 0, 0, 65), (10, 2, 0, 0, 66), (55, 67, 0, 0, 67)] := rfl
theorem zk_M_freshDraft_67 : z_blk 150 67 = [(0, 2, 0, 0, 67), (0, 1, 0, 0, 68), (45, 90, 72, 0, 69)] := rfl
theorem zk_M_freshDraft_72 : z_blk 150 72 = [(2, 0, 0, 0, 72), (17, 7, 10, 23, 73), (6, 33, 0, 0, 76), (0, 2, 0, 0, 78), (20, 0, 0, 0, 79), (0, 1, 0, 0, 80), (0, 2, 0, 0, 81), (21, 0, 0, 0, 82), (33, 0, 0, 0, 83), (15, 2, 1, 0, 84), (54, 67, 0, 0, 87)] := rfl
theorem zk_M_freshDraft_90 : z_blk 150 90 = [(69, 0, 0, 0, 90)] := rfl
theorem ze_M_freshDraft (w0 w1 : Value) (G : zG) (M : zM) : z_call 150 [w0, w1] G M = z_ex 150 (z_blk 150 0) [w0, w1, .null] [] G M := rfl
theorem zr_M_freshDraft : z_rc 150 = 7 := rfl
theorem zk_M_begins_0 : z_blk 151 0 = [(2, 1, 0, 0, 0), (2, 0, 0, 0, 1), (17, 7, 9, 20, 2), (63, 152, 2, 160, 5), (5, 0, 0, 0, 8), (10, 2, 0, 0, 9), (55, 10, 0, 0, 10)] := rfl
theorem zk_M_begins_10 : z_blk 151 10 = [(0, 2, 0, 0, 10), (2, 0, 0, 0, 11), (17, 7, 9, 20, 12), (5, 0, 0, 0, 15), (32, 0, 0, 0, 16), (45, 31, 20, 0, 17)] := rfl
theorem zk_M_begins_20 : z_blk 151 20 = [(2, 0, 0, 0, 20), (0, 2, 0, 0, 21), (64, 153, 2, 164, 22), (15, 2, 1, 0, 25), (54, 10, 0, 0, 28)] := rfl
theorem zk_M_begins_31 : z_blk 151 31 = [(69, 0, 0, 0, 31)] := rfl
theorem ze_M_begins (w0 w1 : Value) (G : zG) (M : zM) : z_call 151 [w0, w1] G M = z_ex 151 (z_blk 151 0) [w0, w1, .null] [] G M := rfl
theorem zr_M_begins : z_rc 151 = 7 := rfl
theorem zk_M_copies_0 : z_blk 152 0 = [(5, 0, 0, 0, 0), (10, 2, 0, 0, 1), (55, 2, 0, 0, 2)] := rfl
theorem zk_M_copies_2 : z_blk 152 2 = [(0, 2, 0, 0, 2), (7, 4326, 0, 0, 3), (45, 21, 9, 0, 6)] := rfl
theorem zk_M_copies_9 : z_blk 152 9 = [(2, 1, 0, 0, 9), (0, 2, 0, 0, 10), (2, 0, 0, 0, 11), (0, 2, 0, 0, 12), (32, 0, 0, 0, 13), (33, 0, 0, 0, 14), (15, 2, 1, 0, 15), (54, 2, 0, 0, 18)] := rfl
theorem zk_M_copies_21 : z_blk 152 21 = [(69, 0, 0, 0, 21)] := rfl
theorem ze_M_copies (w0 w1 : Value) (G : zG) (M : zM) : z_call 152 [w0, w1] G M = z_ex 152 (z_blk 152 0) [w0, w1, .null] [] G M := rfl
theorem zr_M_copies : z_rc 152 = 7 := rfl
theorem zk_M_goesAlone_0 : z_blk 153 0 = [(2, 0, 0, 0, 0), (0, 1, 0, 0, 1), (64, 154, 2, 176, 2), (2, 0, 0, 0, 5), (17, 7, 9, 20, 6), (0, 1, 0, 0, 9), (6, 24, 0, 0, 10), (63, 155, 2, 167, 12), (40, 0, 0, 0, 15), (32, 0, 0, 0, 16), (5, 1, 0, 0, 17), (20, 0, 0, 0, 18), (33, 0, 0, 0, 19), (2, 0, 0, 0, 20), (17, 7, 9, 20, 21), (0, 1, 0, 0, 24), (5, 1, 0, 0, 25), (63, 155, 2, 167, 26), (0, 1, 0, 0, 29), (33, 0, 0, 0, 30), (2, 0, 0, 0, 31), (17, 7, 9, 20, 32), (0, 1, 0, 0, 35), (5, 0, 0, 0, 36), (63, 155, 2, 167, 37), (5, 0, 0, 0, 40), (33, 0, 0, 0, 41), (2, 0, 0, 0, 42), (0, 1, 0, 0, 43), (5, 1, 0, 0, 44), (2, 0, 0, 0, 45), (17, 7, 9, 20, 46), (5, 2, 0, 0, 49), (32, 0, 0, 0, 50), (64, 158, 4, 179, 51), (69, 0, 0, 0, 54)] := rfl
theorem ze_M_goesAlone (w0 w1 : Value) (G : zG) (M : zM) : z_call 153 [w0, w1] G M = z_ex 153 (z_blk 153 0) [w0, w1] [] G M := rfl
theorem zr_M_goesAlone : z_rc 153 = 7 := rfl
theorem zk_M_newGroup_0 : z_blk 154 0 = [(2, 0, 0, 0, 0), (17, 7, 9, 20, 1), (0, 1, 0, 0, 4), (5, 2, 0, 0, 5), (63, 155, 2, 167, 6), (40, 0, 0, 0, 9), (32, 0, 0, 0, 10), (5, 1, 0, 0, 11), (20, 0, 0, 0, 12), (33, 0, 0, 0, 13), (2, 0, 0, 0, 14), (0, 1, 0, 0, 15), (6, 10, 0, 0, 16), (2, 0, 0, 0, 18), (17, 7, 9, 20, 19), (0, 1, 0, 0, 22), (5, 2, 0, 0, 23), (63, 155, 2, 167, 24), (32, 0, 0, 0, 27), (22, 0, 0, 0, 28), (0, 1, 0, 0, 29), (20, 0, 0, 0, 30), (64, 156, 3, 170, 31), (2, 0, 0, 0, 34), (17, 7, 9, 20, 35), (0, 1, 0, 0, 38), (5, 4, 0, 0, 39), (63, 155, 2, 167, 40), (5, 1, 0, 0, 43), (0, 1, 0, 0, 44), (26, 0, 0, 0, 45), (33, 0, 0, 0, 46), (2, 0, 0, 0, 47), (0, 1, 0, 0, 48), (64, 157, 2, 173, 49), (69, 0, 0, 0, 52)] := rfl
theorem ze_M_newGroup (w0 w1 : Value) (G : zG) (M : zM) : z_call 154 [w0, w1] G M = z_ex 154 (z_blk 154 0) [w0, w1] [] G M := rfl
theorem zr_M_newGroup : z_rc 154 = 7 := rfl
theorem zk_M_m_0 : z_blk 155 0 = [(6, 41, 0, 0, 0), (6, 28, 0, 0, 2), (0, 0, 0, 0, 4), (22, 0, 0, 0, 5), (20, 0, 0, 0, 6), (0, 1, 0, 0, 7), (20, 0, 0, 0, 8), (70, 0, 0, 0, 9)] := rfl
theorem ze_M_m (w0 w1 : Value) (G : zG) (M : zM) : z_call 155 [w0, w1] G M = z_ex 155 (z_blk 155 0) [w0, w1] [] G M := rfl
theorem zr_M_m : z_rc 155 = 7 := rfl
theorem zk_M_changes_0 : z_blk 156 0 = [(2, 0, 0, 0, 0), (17, 7, 9, 20, 1), (0, 1, 0, 0, 4), (5, 3, 0, 0, 5), (63, 155, 2, 167, 6), (32, 0, 0, 0, 9), (10, 3, 0, 0, 10), (2, 0, 0, 0, 11), (17, 7, 9, 20, 12), (0, 1, 0, 0, 15), (5, 3, 0, 0, 16), (63, 155, 2, 167, 17), (0, 2, 0, 0, 20), (33, 0, 0, 0, 21), (0, 3, 0, 0, 22), (48, 31, 26, 0, 23)] := rfl
theorem zk_M_changes_26 : z_blk 156 26 = [(0, 3, 0, 0, 26), (0, 2, 0, 0, 27), (43, 32, 31, 0, 28)] := rfl
theorem zk_M_changes_31 : z_blk 156 31 = [(69, 0, 0, 0, 31)] := rfl
theorem zk_M_changes_32 : z_blk 156 32 = [(2, 0, 0, 0, 32), (17, 7, 9, 20, 33), (7, 4165, 0, 0, 36), (32, 0, 0, 0, 39), (6, 40, 0, 0, 40), (43, 92, 45, 0, 42)] := rfl
theorem zk_M_changes_45 : z_blk 156 45 = [(7, 4166, 0, 0, 45), (11, 4, 0, 0, 48), (55, 50, 0, 0, 50)] := rfl
theorem zk_M_changes_50 : z_blk 156 50 = [(1, 4, 0, 0, 50), (7, 4322, 0, 0, 52), (45, 80, 58, 0, 55)] := rfl
theorem zk_M_changes_58 : z_blk 156 58 = [(2, 0, 0, 0, 58), (17, 7, 9, 20, 59), (1, 4, 0, 0, 62), (2, 0, 0, 0, 64), (17, 7, 9, 20, 65), (1, 4, 0, 0, 68), (5, 4, 0, 0, 70), (20, 0, 0, 0, 71), (32, 0, 0, 0, 72), (33, 0, 0, 0, 73), (15, 4, 1, 0, 74), (54, 50, 0, 0, 77)] := rfl
theorem zk_M_changes_80 : z_blk 156 80 = [(2, 0, 0, 0, 80), (17, 7, 9, 20, 81), (7, 4165, 0, 0, 84), (40, 0, 0, 0, 87), (32, 0, 0, 0, 88), (5, 1, 0, 0, 89), (21, 0, 0, 0, 90), (33, 0, 0, 0, 91), (55, 92, 0, 0, 92)] := rfl
theorem zk_M_changes_92 : z_blk 156 92 = [(7, 4166, 0, 0, 92), (5, 4, 0, 0, 95), (2, 0, 0, 0, 96), (17, 7, 9, 20, 97), (7, 4165, 0, 0, 100), (32, 0, 0, 0, 103), (22, 0, 0, 0, 104), (20, 0, 0, 0, 105), (11, 4, 0, 0, 106), (2, 0, 0, 0, 108), (17, 7, 9, 20, 109), (1, 4, 0, 0, 112), (2, 0, 0, 0, 114), (17, 7, 9, 20, 115), (6, 6, 0, 0, 118), (32, 0, 0, 0, 120), (33, 0, 0, 0, 121), (2, 0, 0, 0, 122), (17, 7, 9, 20, 123), (1, 4, 0, 0, 126), (5, 1, 0, 0, 128), (20, 0, 0, 0, 129), (0, 1, 0, 0, 130), (33, 0, 0, 0, 131), (2, 0, 0, 0, 132), (17, 7, 9, 20, 133), (1, 4, 0, 0, 136), (5, 2, 0, 0, 138), (20, 0, 0, 0, 139), (0, 3, 0, 0, 140), (33, 0, 0, 0, 141), (2, 0, 0, 0, 142), (17, 7, 9, 20, 143), (1, 4, 0, 0, 146), (5, 3, 0, 0, 148), (20, 0, 0, 0, 149), (0, 2, 0, 0, 150), (33, 0, 0, 0, 151), (2, 0, 0, 0, 152), (17, 7, 9, 20, 153), (7, 4165, 0, 0, 156), (40, 0, 0, 0, 159), (32, 0, 0, 0, 160), (5, 1, 0, 0, 161), (20, 0, 0, 0, 162), (33, 0, 0, 0, 163), (69, 0, 0, 0, 164)] := rfl
theorem ze_M_changes (w0 w1 w2 : Value) (G : zG) (M : zM) : z_call 156 [w0, w1, w2] G M = z_ex 156 (z_blk 156 0) [w0, w1, w2, .null, .null] [] G M := rfl
theorem zr_M_changes : z_rc 156 = 7 := rfl
theorem zk_M_noneFound_0 : z_blk 157 0 = [(2, 0, 0, 0, 0), (17, 7, 9, 20, 1), (0, 1, 0, 0, 4), (5, 5, 0, 0, 5), (63, 155, 2, 167, 6), (5, 0, 0, 0, 9), (33, 0, 0, 0, 10), (2, 0, 0, 0, 11), (17, 7, 9, 20, 12), (0, 1, 0, 0, 15), (6, 20, 0, 0, 16), (63, 155, 2, 167, 18), (5, 0, 0, 0, 21), (33, 0, 0, 0, 22), (69, 0, 0, 0, 23)] := rfl
theorem ze_M_noneFound (w0 w1 : Value) (G : zG) (M : zM) : z_call 157 [w0, w1] G M = z_ex 157 (z_blk 157 0) [w0, w1] [] G M := rfl
theorem zr_M_noneFound : z_rc 157 = 7 := rfl
theorem zk_M_phase_0 : z_blk 158 0 = [(2, 0, 0, 0, 0), (17, 7, 9, 20, 1), (0, 1, 0, 0, 4), (6, 6, 0, 0, 5), (63, 155, 2, 167, 7), (0, 2, 0, 0, 10), (33, 0, 0, 0, 11), (2, 0, 0, 0, 12), (17, 7, 9, 20, 13), (0, 1, 0, 0, 16), (6, 7, 0, 0, 17), (63, 155, 2, 167, 19), (2, 0, 0, 0, 22), (17, 7, 9, 20, 23), (6, 6, 0, 0, 26), (32, 0, 0, 0, 28), (0, 3, 0, 0, 29), (20, 0, 0, 0, 30), (33, 0, 0, 0, 31), (69, 0, 0, 0, 32)] := rfl
theorem ze_M_phase (w0 w1 w2 w3 : Value) (G : zG) (M : zM) : z_call 158 [w0, w1, w2, w3] G M = z_ex 158 (z_blk 158 0) [w0, w1, w2, w3] [] G M := rfl
theorem zr_M_phase : z_rc 158 = 7 := rfl
theorem zk_M_thrown_0 : z_blk 159 0 = [(2, 0, 0, 0, 0), (16, 7, 0, 48, 1), (70, 0, 0, 0, 4)] := rfl
theorem ze_M_thrown (w0 : Value) (G : zG) (M : zM) : z_call 159 [w0] G M = z_ex 159 (z_blk 159 0) [w0] [] G M := rfl
theorem zr_M_thrown : z_rc 159 = 7 := rfl
theorem zk_M_feed_0 : z_blk 160 0 = [(2, 0, 0, 0, 0), (5, 0, 0, 0, 1), (18, 7, 0, 48, 2), (2, 0, 0, 0, 5), (16, 7, 2, 51, 6), (6, 20, 0, 0, 9), (20, 0, 0, 0, 11), (7, 200, 0, 0, 12), (47, 20, 18, 0, 15)] := rfl
theorem zk_M_feed_18 : z_blk 160 18 = [(5, 4294967295, 0, 0, 18), (70, 0, 0, 0, 19)] := rfl
theorem zk_M_feed_20 : z_blk 160 20 = [(5, 0, 0, 0, 20), (11, 6, 0, 0, 21), (55, 23, 0, 0, 23)] := rfl
theorem zk_M_feed_23 : z_blk 160 23 = [(1, 6, 0, 0, 23), (6, 20, 0, 0, 25), (45, 120, 30, 0, 27)] := rfl
theorem zk_M_feed_30 : z_blk 160 30 = [(1, 6, 0, 0, 30), (5, 4, 0, 0, 32), (45, 40, 36, 0, 33)] := rfl
theorem zk_M_feed_36 : z_blk 160 36 = [(0, 1, 0, 0, 36), (54, 76, 0, 0, 37)] := rfl
theorem zk_M_feed_40 : z_blk 160 40 = [(1, 6, 0, 0, 40), (6, 8, 0, 0, 42), (45, 51, 47, 0, 44)] := rfl
theorem zk_M_feed_47 : z_blk 160 47 = [(0, 2, 0, 0, 47), (54, 76, 0, 0, 48)] := rfl
theorem zk_M_feed_51 : z_blk 160 51 = [(1, 6, 0, 0, 51), (6, 12, 0, 0, 53), (45, 62, 58, 0, 55)] := rfl
theorem zk_M_feed_58 : z_blk 160 58 = [(0, 3, 0, 0, 58), (54, 76, 0, 0, 59)] := rfl
theorem zk_M_feed_62 : z_blk 160 62 = [(1, 6, 0, 0, 62), (6, 16, 0, 0, 64), (45, 74, 69, 0, 66)] := rfl
theorem zk_M_feed_69 : z_blk 160 69 = [(1, 4, 0, 0, 69), (54, 76, 0, 0, 71)] := rfl
theorem zk_M_feed_74 : z_blk 160 74 = [(1, 5, 0, 0, 74), (55, 76, 0, 0, 76)] := rfl
theorem zk_M_feed_76 : z_blk 160 76 = [(11, 7, 0, 0, 76), (2, 0, 0, 0, 78), (17, 7, 8, 17, 79), (2, 0, 0, 0, 82), (16, 7, 2, 51, 83), (1, 7, 0, 0, 86), (6, 24, 0, 0, 88), (6, 8, 0, 0, 90), (1, 6, 0, 0, 92), (5, 4, 0, 0, 94), (30, 0, 0, 0, 95), (22, 0, 0, 0, 96), (21, 0, 0, 0, 97), (27, 0, 0, 0, 98), (7, 255, 0, 0, 99), (23, 0, 0, 0, 102), (33, 0, 0, 0, 103), (2, 0, 0, 0, 104), (39, 0, 0, 0, 105), (16, 7, 2, 51, 106), (5, 1, 0, 0, 109), (20, 0, 0, 0, 110), (18, 7, 2, 51, 111), (15, 6, 1, 0, 114), (54, 23, 0, 0, 117)] := rfl
theorem zk_M_feed_120 : z_blk 160 120 = [(2, 0, 0, 0, 120), (16, 7, 2, 51, 121), (70, 0, 0, 0, 124)] := rfl
theorem ze_M_feed (w0 w1 w2 w3 w4 w5 : Value) (G : zG) (M : zM) : z_call 160 [w0, w1, w2, w3, w4, w5] G M = z_ex 160 (z_blk 160 0) [w0, w1, w2, w3, w4, w5, .null, .null] [] G M := rfl
theorem zr_M_feed : z_rc 160 = 7 := rfl
theorem zk_M_text_0 : z_blk 161 0 = [(2, 0, 0, 0, 0), (5, 0, 0, 0, 1), (18, 7, 0, 48, 2), (2, 0, 0, 0, 5), (0, 1, 0, 0, 6), (5, 0, 0, 0, 7), (2, 0, 0, 0, 8), (16, 7, 2, 51, 9), (63, 162, 3, 94, 12), (49, 22, 18, 0, 15)] := rfl
theorem zk_M_text_18 : z_blk 161 18 = [(5, 1, 0, 0, 18), (54, 23, 0, 0, 19)] := rfl
theorem zk_M_text_22 : z_blk 161 22 = [(5, 0, 0, 0, 22), (55, 23, 0, 0, 23)] := rfl
theorem zk_M_text_23 : z_blk 161 23 = [(5, 1, 0, 0, 23), (5, 1, 0, 0, 24), (64, 163, 4, 148, 25), (48, 33, 31, 0, 28)] := rfl
theorem zk_M_text_31 : z_blk 161 31 = [(5, 0, 0, 0, 31), (70, 0, 0, 0, 32)] := rfl
theorem zk_M_text_33 : z_blk 161 33 = [(2, 0, 0, 0, 33), (5, 0, 0, 0, 34), (18, 7, 2, 51, 35), (2, 0, 0, 0, 38), (0, 1, 0, 0, 39), (18, 7, 3, 54, 40), (2, 0, 0, 0, 43), (5, 0, 0, 0, 44), (18, 7, 4, 57, 45), (2, 0, 0, 0, 48), (5, 0, 0, 0, 49), (18, 7, 6, 64, 50), (2, 0, 0, 0, 53), (5, 4294967295, 0, 0, 54), (18, 7, 7, 67, 55), (2, 0, 0, 0, 58), (5, 0, 0, 0, 59), (18, 7, 16, 129, 60), (2, 0, 0, 0, 63), (64, 164, 1, 74, 64), (41, 0, 0, 0, 67), (2, 0, 0, 0, 68), (16, 7, 4, 57, 69), (10, 2, 0, 0, 72), (2, 0, 0, 0, 73), (79, 13, 0, 152, 74), (64, 166, 2, 115, 76), (49, 88, 82, 0, 79)] := rfl
theorem zk_M_text_82 : z_blk 161 82 = [(2, 0, 0, 0, 82), (5, 1, 0, 0, 83), (0, 2, 0, 0, 84), (64, 169, 3, 82, 85), (55, 88, 0, 0, 88)] := rfl
theorem zk_M_text_88 : z_blk 161 88 = [(2, 0, 0, 0, 88), (2, 0, 0, 0, 89), (5, 2, 0, 0, 90), (6, 8, 0, 0, 91), (64, 170, 3, 110, 93), (64, 150, 2, 40, 96), (2, 0, 0, 0, 99), (64, 173, 1, 145, 100), (55, 103, 0, 0, 103)] := rfl
theorem zk_M_text_103 : z_blk 161 103 = [(2, 0, 0, 0, 103), (64, 167, 1, 70, 104), (48, 125, 110, 0, 107)] := rfl
theorem zk_M_text_110 : z_blk 161 110 = [(2, 0, 0, 0, 110), (64, 164, 1, 74, 111), (5, 4294967295, 0, 0, 114), (42, 125, 118, 0, 115)] := rfl
theorem zk_M_text_118 : z_blk 161 118 = [(2, 0, 0, 0, 118), (64, 174, 1, 154, 119), (54, 103, 0, 0, 122)] := rfl
theorem zk_M_text_125 : z_blk 161 125 = [(2, 0, 0, 0, 125), (2, 0, 0, 0, 126), (16, 7, 7, 67, 127), (18, 7, 5, 13, 130), (2, 0, 0, 0, 133), (64, 167, 1, 70, 134), (49, 148, 140, 0, 137)] := rfl
theorem zk_M_text_140 : z_blk 161 140 = [(2, 0, 0, 0, 140), (16, 7, 6, 64, 141), (6, 10, 0, 0, 144), (21, 0, 0, 0, 146), (70, 0, 0, 0, 147)] := rfl
theorem zk_M_text_148 : z_blk 161 148 = [(2, 0, 0, 0, 148), (2, 0, 0, 0, 149), (17, 7, 10, 23, 150), (64, 151, 2, 44, 153), (2, 0, 0, 0, 156), (5, 0, 0, 0, 157), (18, 7, 14, 157, 158), (2, 0, 0, 0, 161), (17, 7, 9, 20, 162), (5, 0, 0, 0, 165), (32, 0, 0, 0, 166), (70, 0, 0, 0, 167)] := rfl
theorem ze_M_text (w0 w1 : Value) (G : zG) (M : zM) : z_call 161 [w0, w1] G M = z_ex 161 (z_blk 161 0) [w0, w1, .null] [] G M := rfl
theorem zr_M_text : z_rc 161 = 7 := rfl
theorem zk_M_in_0 : z_blk 162 0 = [(0, 0, 0, 0, 0), (0, 1, 0, 0, 1), (44, 14, 5, 0, 2)] := rfl
theorem zk_M_in_5 : z_blk 162 5 = [(0, 0, 0, 0, 5), (0, 2, 0, 0, 6), (46, 14, 10, 0, 7)] := rfl
theorem zk_M_in_10 : z_blk 162 10 = [(5, 1, 0, 0, 10), (54, 15, 0, 0, 11)] := rfl
theorem zk_M_in_14 : z_blk 162 14 = [(5, 0, 0, 0, 14), (55, 15, 0, 0, 15)] := rfl
theorem zk_M_in_15 : z_blk 162 15 = [(72, 0, 0, 0, 15)] := rfl
theorem ze_M_in (w0 w1 w2 : Value) (G : zG) (M : zM) : z_call 162 [w0, w1, w2] G M = z_ex 162 (z_blk 162 0) [w0, w1, w2] [] G M := rfl
theorem zr_M_in : z_rc 162 = 7 := rfl
theorem zk_M_bad_0 : z_blk 163 0 = [(0, 1, 0, 0, 0), (48, 26, 4, 0, 1)] := rfl
theorem zk_M_bad_4 : z_blk 163 4 = [(2, 0, 0, 0, 4), (16, 7, 0, 48, 5), (49, 26, 11, 0, 8)] := rfl
theorem zk_M_bad_11 : z_blk 163 11 = [(2, 0, 0, 0, 11), (0, 2, 0, 0, 12), (18, 7, 0, 48, 13), (2, 0, 0, 0, 16), (17, 7, 1, 9, 17), (0, 3, 0, 0, 20), (40, 0, 0, 0, 21), (32, 0, 0, 0, 22), (5, 1, 0, 0, 23), (20, 0, 0, 0, 24), (33, 0, 0, 0, 25), (55, 26, 0, 0, 26)] := rfl
theorem zk_M_bad_26 : z_blk 163 26 = [(2, 0, 0, 0, 26), (16, 7, 0, 48, 27), (48, 37, 33, 0, 30)] := rfl
theorem zk_M_bad_33 : z_blk 163 33 = [(5, 1, 0, 0, 33), (54, 38, 0, 0, 34)] := rfl
theorem zk_M_bad_37 : z_blk 163 37 = [(5, 0, 0, 0, 37), (55, 38, 0, 0, 38)] := rfl
theorem zk_M_bad_38 : z_blk 163 38 = [(72, 0, 0, 0, 38)] := rfl
theorem ze_M_bad (w0 w1 w2 w3 : Value) (G : zG) (M : zM) : z_call 163 [w0, w1, w2, w3] G M = z_ex 163 (z_blk 163 0) [w0, w1, w2, w3] [] G M := rfl
theorem zr_M_bad : z_rc 163 = 7 := rfl
theorem zk_M_here_0 : z_blk 164 0 = [(2, 0, 0, 0, 0), (2, 0, 0, 0, 1), (16, 7, 4, 57, 2), (64, 165, 2, 60, 5), (6, 32, 0, 0, 8), (43, 26, 13, 0, 10)] := rfl
theorem zk_M_here_13 : z_blk 164 13 = [(2, 0, 0, 0, 13), (39, 0, 0, 0, 14), (16, 7, 4, 57, 15), (5, 1, 0, 0, 18), (20, 0, 0, 0, 19), (18, 7, 4, 57, 20), (54, 0, 0, 0, 23)] := rfl
theorem zk_M_here_26 : z_blk 164 26 = [(2, 0, 0, 0, 26), (2, 0, 0, 0, 27), (16, 7, 4, 57, 28), (64, 165, 2, 60, 31), (70, 0, 0, 0, 34)] := rfl
theorem ze_M_here (w0 : Value) (G : zG) (M : zM) : z_call 164 [w0] G M = z_ex 164 (z_blk 164 0) [w0] [] G M := rfl
theorem zr_M_here : z_rc 164 = 7 := rfl
theorem zk_M_byteAt_0 : z_blk 165 0 = [(0, 1, 0, 0, 0), (2, 0, 0, 0, 1), (16, 7, 3, 54, 2), (44, 12, 8, 0, 5)] := rfl
theorem zk_M_byteAt_8 : z_blk 165 8 = [(5, 4294967295, 0, 0, 8), (54, 18, 0, 0, 9)] := rfl
theorem zk_M_byteAt_12 : z_blk 165 12 = [(2, 0, 0, 0, 12), (17, 7, 8, 17, 13), (0, 1, 0, 0, 16), (32, 0, 0, 0, 17), (55, 18, 0, 0, 18)] := rfl
theorem zk_M_byteAt_18 : z_blk 165 18 = [(70, 0, 0, 0, 18)] := rfl
theorem ze_M_byteAt (w0 w1 : Value) (G : zG) (M : zM) : z_call 165 [w0, w1] G M = z_ex 165 (z_blk 165 0) [w0, w1] [] G M := rfl
theorem zr_M_byteAt : z_rc 165 = 7 := rfl
theorem zk_M_takes_0 : z_blk 166 0 = [(2, 0, 0, 0, 0), (64, 167, 1, 70, 1), (49, 9, 7, 0, 4)] := rfl
theorem zk_M_takes_7 : z_blk 166 7 = [(5, 0, 0, 0, 7), (72, 0, 0, 0, 8)] := rfl
theorem zk_M_takes_9 : z_blk 166 9 = [(2, 0, 0, 0, 9), (64, 164, 1, 74, 10), (41, 0, 0, 0, 13), (5, 0, 0, 0, 14), (10, 2, 0, 0, 15), (55, 16, 0, 0, 16)] := rfl
theorem zk_M_takes_16 : z_blk 166 16 = [(0, 2, 0, 0, 16), (2, 1, 0, 0, 17), (81, 0, 0, 98, 18), (45, 48, 24, 0, 21)] := rfl
theorem zk_M_takes_24 : z_blk 166 24 = [(2, 0, 0, 0, 24), (2, 0, 0, 0, 25), (16, 7, 4, 57, 26), (0, 2, 0, 0, 29), (20, 0, 0, 0, 30), (64, 165, 2, 60, 31), (2, 1, 0, 0, 34), (0, 2, 0, 0, 35), (82, 0, 0, 103, 36), (43, 48, 42, 0, 39)] := rfl
theorem zk_M_takes_42 : z_blk 166 42 = [(15, 2, 1, 0, 42), (54, 16, 0, 0, 45)] := rfl
theorem zk_M_takes_48 : z_blk 166 48 = [(0, 2, 0, 0, 48), (2, 1, 0, 0, 49), (81, 0, 0, 98, 50), (44, 72, 56, 0, 53)] := rfl
theorem zk_M_takes_56 : z_blk 166 56 = [(2, 0, 0, 0, 56), (2, 0, 0, 0, 57), (16, 7, 4, 57, 58), (0, 2, 0, 0, 61), (20, 0, 0, 0, 62), (64, 165, 2, 60, 63), (63, 168, 1, 107, 66), (48, 74, 72, 0, 69)] := rfl
theorem zk_M_takes_72 : z_blk 166 72 = [(5, 0, 0, 0, 72), (72, 0, 0, 0, 73)] := rfl
theorem zk_M_takes_74 : z_blk 166 74 = [(2, 0, 0, 0, 74), (39, 0, 0, 0, 75), (16, 7, 4, 57, 76), (0, 2, 0, 0, 79), (20, 0, 0, 0, 80), (18, 7, 4, 57, 81), (5, 1, 0, 0, 84), (72, 0, 0, 0, 85)] := rfl
theorem ze_M_takes (w0 w1 : Value) (G : zG) (M : zM) : z_call 166 [w0, w1] G M = z_ex 166 (z_blk 166 0) [w0, w1, .null] [] G M := rfl
theorem zr_M_takes : z_rc 166 = 7 := rfl
theorem zk_M_fine_0 : z_blk 167 0 = [(2, 0, 0, 0, 0), (16, 7, 6, 64, 1), (49, 11, 7, 0, 4)] := rfl
theorem zk_M_fine_7 : z_blk 167 7 = [(5, 1, 0, 0, 7), (54, 12, 0, 0, 8)] := rfl
theorem zk_M_fine_11 : z_blk 167 11 = [(5, 0, 0, 0, 11), (55, 12, 0, 0, 12)] := rfl
theorem zk_M_fine_12 : z_blk 167 12 = [(72, 0, 0, 0, 12)] := rfl
theorem ze_M_fine (w0 : Value) (G : zG) (M : zM) : z_call 167 [w0] G M = z_ex 167 (z_blk 167 0) [w0] [] G M := rfl
theorem zr_M_fine : z_rc 167 = 7 := rfl
theorem zk_M_isSmall_0 : z_blk 168 0 = [(0, 0, 0, 0, 0), (6, 97, 0, 0, 1), (44, 16, 6, 0, 3)] := rfl
theorem zk_M_isSmall_6 : z_blk 168 6 = [(0, 0, 0, 0, 6), (6, 122, 0, 0, 7), (46, 16, 12, 0, 9)] := rfl
theorem zk_M_isSmall_12 : z_blk 168 12 = [(5, 1, 0, 0, 12), (54, 17, 0, 0, 13)] := rfl
theorem zk_M_isSmall_16 : z_blk 168 16 = [(5, 0, 0, 0, 16), (55, 17, 0, 0, 17)] := rfl
theorem zk_M_isSmall_17 : z_blk 168 17 = [(72, 0, 0, 0, 17)] := rfl
theorem ze_M_isSmall (w0 : Value) (G : zG) (M : zM) : z_call 168 [w0] G M = z_ex 168 (z_blk 168 0) [w0] [] G M := rfl
theorem zr_M_isSmall : z_rc 168 = 7 := rfl
theorem zk_M_wrong_0 : z_blk 169 0 = [(2, 0, 0, 0, 0), (16, 7, 6, 64, 1), (49, 17, 7, 0, 4)] := rfl
theorem zk_M_wrong_7 : z_blk 169 7 = [(2, 0, 0, 0, 7), (0, 1, 0, 0, 8), (18, 7, 6, 64, 9), (2, 0, 0, 0, 12), (0, 2, 0, 0, 13), (18, 7, 7, 67, 14), (55, 17, 0, 0, 17)] := rfl
theorem zk_M_wrong_17 : z_blk 169 17 = [(69, 0, 0, 0, 17)] := rfl
theorem ze_M_wrong (w0 w1 w2 : Value) (G : zG) (M : zM) : z_call 169 [w0, w1, w2] G M = z_ex 169 (z_blk 169 0) [w0, w1, w2] [] G M := rfl
theorem zr_M_wrong : z_rc 169 = 7 := rfl
theorem zk_M_number_0 : z_blk 170 0 = [(2, 0, 0, 0, 0), (64, 167, 1, 70, 1), (49, 9, 7, 0, 4)] := rfl
theorem zk_M_number_7 : z_blk 170 7 = [(0, 1, 0, 0, 7), (70, 0, 0, 0, 8)] := rfl
theorem zk_M_number_9 : z_blk 170 9 = [(2, 0, 0, 0, 9), (64, 164, 1, 74, 10), (63, 171, 1, 78, 13), (49, 28, 19, 0, 16)] := rfl
theorem zk_M_number_19 : z_blk 170 19 = [(2, 0, 0, 0, 19), (5, 1, 0, 0, 20), (2, 0, 0, 0, 21), (16, 7, 4, 57, 22), (64, 169, 3, 82, 25), (55, 28, 0, 0, 28)] := rfl
theorem zk_M_number_28 : z_blk 170 28 = [(2, 0, 0, 0, 28), (2, 0, 0, 0, 29), (16, 7, 4, 57, 30), (18, 7, 15, 86, 33), (5, 0, 0, 0, 36), (10, 3, 0, 0, 37), (55, 38, 0, 0, 38)] := rfl
theorem zk_M_number_38 : z_blk 170 38 = [(2, 0, 0, 0, 38), (2, 0, 0, 0, 39), (16, 7, 4, 57, 40), (64, 165, 2, 60, 43), (63, 171, 1, 78, 46), (48, 87, 52, 0, 49)] := rfl
theorem zk_M_number_52 : z_blk 170 52 = [(8, 100000, 0, 89, 52), (6, 10, 0, 0, 54), (0, 3, 0, 0, 56), (22, 0, 0, 0, 57), (2, 0, 0, 0, 58), (2, 0, 0, 0, 59), (16, 7, 4, 57, 60), (64, 165, 2, 60, 63), (20, 0, 0, 0, 66), (6, 48, 0, 0, 67), (21, 0, 0, 0, 69), (63, 172, 2, 90, 70), (10, 3, 0, 0, 73), (2, 0, 0, 0, 74), (39, 0, 0, 0, 75), (16, 7, 4, 57, 76), (5, 1, 0, 0, 79), (20, 0, 0, 0, 80), (18, 7, 4, 57, 81), (54, 38, 0, 0, 84)] := rfl
theorem zk_M_number_87 : z_blk 170 87 = [(0, 3, 0, 0, 87), (0, 1, 0, 0, 88), (0, 2, 0, 0, 89), (63, 162, 3, 94, 90), (49, 105, 96, 0, 93)] := rfl
theorem zk_M_number_96 : z_blk 170 96 = [(2, 0, 0, 0, 96), (5, 2, 0, 0, 97), (2, 0, 0, 0, 98), (16, 7, 15, 86, 99), (64, 169, 3, 82, 102), (55, 105, 0, 0, 105)] := rfl
theorem zk_M_number_105 : z_blk 170 105 = [(2, 0, 0, 0, 105), (64, 167, 1, 70, 106), (48, 116, 112, 0, 109)] := rfl
theorem zk_M_number_112 : z_blk 170 112 = [(0, 3, 0, 0, 112), (54, 117, 0, 0, 113)] := rfl
theorem zk_M_number_116 : z_blk 170 116 = [(0, 1, 0, 0, 116), (55, 117, 0, 0, 117)] := rfl
theorem zk_M_number_117 : z_blk 170 117 = [(70, 0, 0, 0, 117)] := rfl
theorem ze_M_number (w0 w1 w2 : Value) (G : zG) (M : zM) : z_call 170 [w0, w1, w2] G M = z_ex 170 (z_blk 170 0) [w0, w1, w2, .null] [] G M := rfl
theorem zr_M_number : z_rc 170 = 7 := rfl
theorem zk_M_isDigit_0 : z_blk 171 0 = [(0, 0, 0, 0, 0), (6, 48, 0, 0, 1), (44, 16, 6, 0, 3)] := rfl
theorem zk_M_isDigit_6 : z_blk 171 6 = [(0, 0, 0, 0, 6), (6, 57, 0, 0, 7), (46, 16, 12, 0, 9)] := rfl
theorem zk_M_isDigit_12 : z_blk 171 12 = [(5, 1, 0, 0, 12), (54, 17, 0, 0, 13)] := rfl
theorem zk_M_isDigit_16 : z_blk 171 16 = [(5, 0, 0, 0, 16), (55, 17, 0, 0, 17)] := rfl
theorem zk_M_isDigit_17 : z_blk 171 17 = [(72, 0, 0, 0, 17)] := rfl
theorem ze_M_isDigit (w0 : Value) (G : zG) (M : zM) : z_call 171 [w0] G M = z_ex 171 (z_blk 171 0) [w0] [] G M := rfl
theorem zr_M_isDigit : z_rc 171 = 7 := rfl
theorem zk_M_less_0 : z_blk 172 0 = [(0, 0, 0, 0, 0), (0, 1, 0, 0, 1), (45, 9, 5, 0, 2)] := rfl
theorem zk_M_less_5 : z_blk 172 5 = [(0, 0, 0, 0, 5), (54, 10, 0, 0, 6)] := rfl
theorem zk_M_less_9 : z_blk 172 9 = [(0, 1, 0, 0, 9), (55, 10, 0, 0, 10)] := rfl
theorem zk_M_less_10 : z_blk 172 10 = [(70, 0, 0, 0, 10)] := rfl
theorem ze_M_less (w0 w1 : Value) (G : zG) (M : zM) : z_call 172 [w0, w1] G M = z_ex 172 (z_blk 172 0) [w0, w1] [] G M := rfl
theorem zr_M_less : z_rc 172 = 7 := rfl
theorem zk_M_ends_0 : z_blk 173 0 = [(2, 0, 0, 0, 0), (64, 167, 1, 70, 1), (49, 8, 7, 0, 4)] := rfl
theorem zk_M_ends_7 : z_blk 173 7 = [(69, 0, 0, 0, 7)] := rfl
theorem zk_M_ends_8 : z_blk 173 8 = [(2, 0, 0, 0, 8), (64, 164, 1, 74, 9), (6, 59, 0, 0, 12), (43, 30, 17, 0, 14)] := rfl
theorem zk_M_ends_17 : z_blk 173 17 = [(2, 0, 0, 0, 17), (39, 0, 0, 0, 18), (16, 7, 4, 57, 19), (5, 1, 0, 0, 22), (20, 0, 0, 0, 23), (18, 7, 4, 57, 24), (54, 39, 0, 0, 27)] := rfl
theorem zk_M_ends_30 : z_blk 173 30 = [(2, 0, 0, 0, 30), (5, 1, 0, 0, 31), (2, 0, 0, 0, 32), (16, 7, 4, 57, 33), (64, 169, 3, 82, 36), (55, 39, 0, 0, 39)] := rfl
theorem zk_M_ends_39 : z_blk 173 39 = [(69, 0, 0, 0, 39)] := rfl
theorem ze_M_ends (w0 : Value) (G : zG) (M : zM) : z_call 173 [w0] G M = z_ex 173 (z_blk 173 0) [w0] [] G M := rfl
theorem zr_M_ends : z_rc 173 = 7 := rfl
theorem zk_M_readsLine_0 : z_blk 174 0 = [(2, 0, 0, 0, 0), (64, 164, 1, 74, 1), (41, 0, 0, 0, 4), (2, 0, 0, 0, 5), (16, 7, 4, 57, 6), (10, 1, 0, 0, 9), (2, 0, 0, 0, 10), (79, 14, 0, 113, 11), (64, 166, 2, 115, 13), (48, 23, 19, 0, 16)] := rfl
theorem zk_M_readsLine_19 : z_blk 174 19 = [(5, 0, 0, 0, 19), (54, 89, 0, 0, 20)] := rfl
theorem zk_M_readsLine_23 : z_blk 174 23 = [(2, 0, 0, 0, 23), (79, 15, 0, 119, 24), (64, 166, 2, 115, 26), (48, 36, 32, 0, 29)] := rfl
theorem zk_M_readsLine_32 : z_blk 174 32 = [(5, 1, 0, 0, 32), (54, 89, 0, 0, 33)] := rfl
theorem zk_M_readsLine_36 : z_blk 174 36 = [(2, 0, 0, 0, 36), (79, 16, 0, 121, 37), (64, 166, 2, 115, 39), (48, 49, 45, 0, 42)] := rfl
theorem zk_M_readsLine_45 : z_blk 174 45 = [(5, 2, 0, 0, 45), (54, 89, 0, 0, 46)] := rfl
theorem zk_M_readsLine_49 : z_blk 174 49 = [(2, 0, 0, 0, 49), (79, 17, 0, 123, 50), (64, 166, 2, 115, 52), (48, 62, 58, 0, 55)] := rfl
theorem zk_M_readsLine_58 : z_blk 174 58 = [(5, 3, 0, 0, 58), (54, 89, 0, 0, 59)] := rfl
theorem zk_M_readsLine_62 : z_blk 174 62 = [(2, 0, 0, 0, 62), (79, 18, 0, 125, 63), (64, 166, 2, 115, 65), (48, 75, 71, 0, 68)] := rfl
theorem zk_M_readsLine_71 : z_blk 174 71 = [(5, 4, 0, 0, 71), (54, 89, 0, 0, 72)] := rfl
theorem zk_M_readsLine_75 : z_blk 174 75 = [(2, 0, 0, 0, 75), (79, 19, 0, 127, 76), (64, 166, 2, 115, 78), (48, 88, 84, 0, 81)] := rfl
theorem zk_M_readsLine_84 : z_blk 174 84 = [(5, 5, 0, 0, 84), (54, 89, 0, 0, 85)] := rfl
theorem zk_M_readsLine_88 : z_blk 174 88 = [(5, 4294967295, 0, 0, 88), (55, 89, 0, 0, 89)] := rfl
theorem zk_M_readsLine_89 : z_blk 174 89 = [(10, 2, 0, 0, 89), (0, 2, 0, 0, 90), (5, 4294967295, 0, 0, 91), (43, 101, 95, 0, 92)] := rfl
theorem zk_M_readsLine_95 : z_blk 174 95 = [(2, 0, 0, 0, 95), (5, 1, 0, 0, 96), (0, 1, 0, 0, 97), (64, 169, 3, 82, 98), (55, 101, 0, 0, 101)] := rfl
theorem zk_M_readsLine_101 : z_blk 174 101 = [(2, 0, 0, 0, 101), (64, 167, 1, 70, 102), (48, 125, 108, 0, 105)] := rfl
theorem zk_M_readsLine_108 : z_blk 174 108 = [(2, 0, 0, 0, 108), (16, 7, 16, 129, 109), (0, 2, 0, 0, 112), (63, 175, 2, 132, 113), (48, 125, 119, 0, 116)] := rfl
theorem zk_M_readsLine_119 : z_blk 174 119 = [(2, 0, 0, 0, 119), (5, 4, 0, 0, 120), (0, 1, 0, 0, 121), (64, 169, 3, 82, 122), (55, 125, 0, 0, 125)] := rfl
theorem zk_M_readsLine_125 : z_blk 174 125 = [(2, 0, 0, 0, 125), (64, 167, 1, 70, 126), (49, 133, 132, 0, 129)] := rfl
theorem zk_M_readsLine_132 : z_blk 174 132 = [(69, 0, 0, 0, 132)] := rfl
theorem zk_M_readsLine_133 : z_blk 174 133 = [(2, 0, 0, 0, 133), (39, 0, 0, 0, 134), (16, 7, 16, 129, 135), (5, 1, 0, 0, 138), (0, 2, 0, 0, 139), (26, 0, 0, 0, 140), (24, 0, 0, 0, 141), (18, 7, 16, 129, 142), (0, 2, 0, 0, 145), (49, 156, 149, 0, 146)] := rfl
theorem zk_M_readsLine_149 : z_blk 174 149 = [(2, 0, 0, 0, 149), (64, 176, 1, 136, 150), (54, 205, 0, 0, 153)] := rfl
theorem zk_M_readsLine_156 : z_blk 174 156 = [(0, 2, 0, 0, 156), (5, 1, 0, 0, 157), (43, 177, 161, 0, 158)] := rfl
theorem zk_M_readsLine_161 : z_blk 174 161 = [(2, 0, 0, 0, 161), (17, 7, 10, 23, 162), (5, 1, 0, 0, 165), (2, 0, 0, 0, 166), (5, 1, 0, 0, 167), (6, 6, 0, 0, 168), (64, 170, 3, 110, 170), (33, 0, 0, 0, 173), (54, 205, 0, 0, 174)] := rfl
theorem zk_M_readsLine_177 : z_blk 174 177 = [(2, 0, 0, 0, 177), (17, 7, 10, 23, 178), (5, 2, 0, 0, 181), (0, 2, 0, 0, 182), (20, 0, 0, 0, 183), (5, 2, 0, 0, 184), (21, 0, 0, 0, 185), (2, 0, 0, 0, 186), (78, 4, 0, 139, 187), (0, 2, 0, 0, 190), (5, 2, 0, 0, 191), (21, 0, 0, 0, 192), (32, 0, 0, 0, 193), (78, 5, 0, 142, 194), (0, 2, 0, 0, 197), (5, 2, 0, 0, 198), (21, 0, 0, 0, 199), (32, 0, 0, 0, 200), (64, 170, 3, 110, 201), (33, 0, 0, 0, 204), (55, 205, 0, 0, 205)] := rfl
theorem zk_M_readsLine_205 : z_blk 174 205 = [(2, 0, 0, 0, 205), (64, 173, 1, 145, 206), (69, 0, 0, 0, 209)] := rfl
theorem ze_M_readsLine (w0 : Value) (G : zG) (M : zM) : z_call 174 [w0] G M = z_ex 174 (z_blk 174 0) [w0, .null, .null] [] G M := rfl
theorem zr_M_readsLine : z_rc 174 = 7 := rfl
theorem zk_M_has_0 : z_blk 175 0 = [(0, 0, 0, 0, 0), (0, 1, 0, 0, 1), (27, 0, 0, 0, 2), (5, 1, 0, 0, 3), (23, 0, 0, 0, 4), (5, 1, 0, 0, 5), (43, 13, 9, 0, 6)] := rfl
theorem zk_M_has_9 : z_blk 175 9 = [(5, 1, 0, 0, 9), (54, 14, 0, 0, 10)] := rfl
theorem zk_M_has_13 : z_blk 175 13 = [(5, 0, 0, 0, 13), (55, 14, 0, 0, 14)] := rfl
theorem zk_M_has_14 : z_blk 175 14 = [(72, 0, 0, 0, 14)] := rfl
theorem ze_M_has (w0 w1 : Value) (G : zG) (M : zM) : z_call 175 [w0, w1] G M = z_ex 175 (z_blk 175 0) [w0, w1] [] G M := rfl
theorem zr_M_has : z_rc 175 = 7 := rfl
theorem zk_M_readsRanks_0 : z_blk 176 0 = [(5, 0, 0, 0, 0), (10, 1, 0, 0, 1), (55, 2, 0, 0, 2)] := rfl
theorem zk_M_readsRanks_2 : z_blk 176 2 = [(0, 1, 0, 0, 2), (2, 0, 0, 0, 3), (17, 7, 10, 23, 4), (5, 0, 0, 0, 7), (32, 0, 0, 0, 8), (45, 102, 12, 0, 9)] := rfl
theorem zk_M_readsRanks_12 : z_blk 176 12 = [(2, 0, 0, 0, 12), (64, 167, 1, 70, 13), (48, 102, 19, 0, 16)] := rfl
theorem zk_M_readsRanks_19 : z_blk 176 19 = [(2, 0, 0, 0, 19), (5, 0, 0, 0, 20), (6, 99, 0, 0, 21), (64, 170, 3, 110, 23), (10, 2, 0, 0, 26), (5, 0, 0, 0, 27), (10, 3, 0, 0, 28), (5, 0, 0, 0, 29), (11, 4, 0, 0, 30), (55, 32, 0, 0, 32)] := rfl
theorem zk_M_readsRanks_32 : z_blk 176 32 = [(1, 4, 0, 0, 32), (0, 1, 0, 0, 34), (45, 66, 38, 0, 35)] := rfl
theorem zk_M_readsRanks_38 : z_blk 176 38 = [(0, 3, 0, 0, 38), (2, 0, 0, 0, 39), (17, 7, 10, 23, 40), (6, 33, 0, 0, 43), (1, 4, 0, 0, 45), (20, 0, 0, 0, 47), (32, 0, 0, 0, 48), (0, 2, 0, 0, 49), (43, 57, 53, 0, 50)] := rfl
theorem zk_M_readsRanks_53 : z_blk 176 53 = [(5, 1, 0, 0, 53), (54, 58, 0, 0, 54)] := rfl
theorem zk_M_readsRanks_57 : z_blk 176 57 = [(5, 0, 0, 0, 57), (55, 58, 0, 0, 58)] := rfl
theorem zk_M_readsRanks_58 : z_blk 176 58 = [(24, 0, 0, 0, 58), (10, 3, 0, 0, 59), (15, 4, 1, 0, 60), (54, 32, 0, 0, 63)] := rfl
theorem zk_M_readsRanks_66 : z_blk 176 66 = [(2, 0, 0, 0, 66), (64, 167, 1, 70, 67), (48, 86, 73, 0, 70)] := rfl
theorem zk_M_readsRanks_73 : z_blk 176 73 = [(0, 3, 0, 0, 73), (48, 86, 77, 0, 74)] := rfl
theorem zk_M_readsRanks_77 : z_blk 176 77 = [(2, 0, 0, 0, 77), (5, 3, 0, 0, 78), (2, 0, 0, 0, 79), (16, 7, 15, 86, 80), (64, 169, 3, 82, 83), (55, 86, 0, 0, 86)] := rfl
theorem zk_M_readsRanks_86 : z_blk 176 86 = [(2, 0, 0, 0, 86), (17, 7, 10, 23, 87), (6, 33, 0, 0, 90), (0, 1, 0, 0, 92), (20, 0, 0, 0, 93), (0, 2, 0, 0, 94), (33, 0, 0, 0, 95), (15, 1, 1, 0, 96), (54, 2, 0, 0, 99)] := rfl
theorem zk_M_readsRanks_102 : z_blk 176 102 = [(69, 0, 0, 0, 102)] := rfl
theorem ze_M_readsRanks (w0 : Value) (G : zG) (M : zM) : z_call 176 [w0] G M = z_ex 176 (z_blk 176 0) [w0, .null, .null, .null, .null] [] G M := rfl
theorem zr_M_readsRanks : z_rc 176 = 7 := rfl
theorem zk_M_fault_0 : z_blk 177 0 = [(2, 0, 0, 0, 0), (5, 0, 0, 0, 1), (18, 7, 0, 48, 2), (2, 0, 0, 0, 5), (16, 7, 5, 13, 6), (70, 0, 0, 0, 9)] := rfl
theorem ze_M_fault (w0 : Value) (G : zG) (M : zM) : z_call 177 [w0] G M = z_ex 177 (z_blk 177 0) [w0] [] G M := rfl
theorem zr_M_fault : z_rc 177 = 7 := rfl
theorem zk_M_undo_0 : z_blk 178 0 = [(2, 0, 0, 0, 0), (5, 0, 0, 0, 1), (18, 7, 0, 48, 2), (2, 0, 0, 0, 5), (16, 7, 14, 157, 6), (49, 14, 12, 0, 9)] := rfl
theorem zk_M_undo_12 : z_blk 178 12 = [(5, 4294967295, 0, 0, 12), (70, 0, 0, 0, 13)] := rfl
theorem zk_M_undo_14 : z_blk 178 14 = [(2, 0, 0, 0, 14), (39, 0, 0, 0, 15), (16, 7, 14, 157, 16), (5, 1, 0, 0, 19), (21, 0, 0, 0, 20), (18, 7, 14, 157, 21), (2, 0, 0, 0, 24), (17, 7, 13, 34, 25), (2, 0, 0, 0, 28), (16, 7, 14, 157, 29), (34, 0, 0, 0, 32), (2, 0, 0, 0, 33), (17, 7, 9, 20, 34), (63, 152, 2, 160, 37), (2, 0, 0, 0, 40), (16, 7, 14, 157, 41), (70, 0, 0, 0, 44)] := rfl
theorem ze_M_undo (w0 : Value) (G : zG) (M : zM) : z_call 178 [w0] G M = z_ex 178 (z_blk 178 0) [w0] [] G M := rfl
theorem zr_M_undo : z_rc 178 = 7 := rfl
theorem zk_M_ticks_0 : z_blk 179 0 = [(2, 0, 0, 0, 0), (5, 0, 0, 0, 1), (18, 7, 0, 48, 2), (2, 0, 0, 0, 5), (0, 1, 0, 0, 6), (5, 1, 0, 0, 7), (6, 100, 0, 0, 8), (63, 162, 3, 94, 10), (49, 20, 16, 0, 13)] := rfl
theorem zk_M_ticks_16 : z_blk 179 16 = [(5, 1, 0, 0, 16), (54, 21, 0, 0, 17)] := rfl
theorem zk_M_ticks_20 : z_blk 179 20 = [(5, 0, 0, 0, 20), (55, 21, 0, 0, 21)] := rfl
theorem zk_M_ticks_21 : z_blk 179 21 = [(5, 1, 0, 0, 21), (5, 1, 0, 0, 22), (64, 163, 4, 148, 23), (48, 31, 29, 0, 26)] := rfl
theorem zk_M_ticks_29 : z_blk 179 29 = [(5, 0, 0, 0, 29), (70, 0, 0, 0, 30)] := rfl
theorem zk_M_ticks_31 : z_blk 179 31 = [(2, 0, 0, 0, 31), (64, 180, 1, 244, 32), (2, 0, 0, 0, 35), (0, 1, 0, 0, 36), (64, 181, 2, 247, 37), (70, 0, 0, 0, 40)] := rfl
theorem ze_M_ticks (w0 w1 : Value) (G : zG) (M : zM) : z_call 179 [w0, w1] G M = z_ex 179 (z_blk 179 0) [w0, w1] [] G M := rfl
theorem zr_M_ticks : z_rc 179 = 7 := rfl
theorem zk_M_remembers_0 : z_blk 180 0 = [(2, 0, 0, 0, 0), (16, 7, 14, 157, 1), (6, 8, 0, 0, 4), (43, 50, 9, 0, 6)] := rfl
theorem zk_M_remembers_9 : z_blk 180 9 = [(5, 1, 0, 0, 9), (10, 1, 0, 0, 10), (55, 11, 0, 0, 11)] := rfl
theorem zk_M_remembers_11 : z_blk 180 11 = [(0, 1, 0, 0, 11), (6, 8, 0, 0, 12), (45, 40, 17, 0, 14)] := rfl
theorem zk_M_remembers_17 : z_blk 180 17 = [(2, 0, 0, 0, 17), (17, 7, 13, 34, 18), (0, 1, 0, 0, 21), (34, 0, 0, 0, 22), (2, 0, 0, 0, 23), (17, 7, 13, 34, 24), (0, 1, 0, 0, 27), (5, 1, 0, 0, 28), (21, 0, 0, 0, 29), (34, 0, 0, 0, 30), (63, 152, 2, 160, 31), (15, 1, 1, 0, 34), (54, 11, 0, 0, 37)] := rfl
theorem zk_M_remembers_40 : z_blk 180 40 = [(2, 0, 0, 0, 40), (39, 0, 0, 0, 41), (16, 7, 14, 157, 42), (5, 1, 0, 0, 45), (21, 0, 0, 0, 46), (18, 7, 14, 157, 47), (55, 50, 0, 0, 50)] := rfl
theorem zk_M_remembers_50 : z_blk 180 50 = [(2, 0, 0, 0, 50), (17, 7, 9, 20, 51), (2, 0, 0, 0, 54), (17, 7, 13, 34, 55), (2, 0, 0, 0, 58), (16, 7, 14, 157, 59), (34, 0, 0, 0, 62), (63, 152, 2, 160, 63), (2, 0, 0, 0, 66), (39, 0, 0, 0, 67), (16, 7, 14, 157, 68), (5, 1, 0, 0, 71), (20, 0, 0, 0, 72), (18, 7, 14, 157, 73), (69, 0, 0, 0, 76)] := rfl
theorem ze_M_remembers (w0 : Value) (G : zG) (M : zM) : z_call 180 [w0] G M = z_ex 180 (z_blk 180 0) [w0, .null] [] G M := rfl
theorem zr_M_remembers : z_rc 180 = 7 := rfl
theorem zk_M_ticksOf_0 : z_blk 181 0 = [(2, 0, 0, 0, 0), (5, 0, 0, 0, 1), (18, 7, 18, 214, 2), (5, 0, 0, 0, 5), (10, 2, 0, 0, 6), (55, 7, 0, 0, 7)] := rfl
theorem zk_M_ticksOf_7 : z_blk 181 7 = [(0, 2, 0, 0, 7), (0, 1, 0, 0, 8), (45, 22, 12, 0, 9)] := rfl
theorem zk_M_ticksOf_12 : z_blk 181 12 = [(2, 0, 0, 0, 12), (64, 182, 1, 241, 13), (15, 2, 1, 0, 16), (54, 7, 0, 0, 19)] := rfl
theorem zk_M_ticksOf_22 : z_blk 181 22 = [(2, 0, 0, 0, 22), (16, 7, 18, 214, 23), (70, 0, 0, 0, 26)] := rfl
theorem ze_M_ticksOf (w0 w1 : Value) (G : zG) (M : zM) : z_call 181 [w0, w1] G M = z_ex 181 (z_blk 181 0) [w0, w1, .null] [] G M := rfl
theorem zr_M_ticksOf : z_rc 181 = 7 := rfl
theorem zk_M_tick_0 : z_blk 182 0 = [(2, 0, 0, 0, 0), (17, 7, 9, 20, 1), (6, 6, 0, 0, 4), (40, 0, 0, 0, 6), (32, 0, 0, 0, 7), (5, 1, 0, 0, 8), (20, 0, 0, 0, 9), (33, 0, 0, 0, 10), (2, 0, 0, 0, 11), (64, 183, 1, 232, 12), (5, 0, 0, 0, 15), (10, 1, 0, 0, 16), (55, 17, 0, 0, 17)] := rfl
theorem zk_M_tick_17 : z_blk 182 17 = [(0, 1, 0, 0, 17), (2, 0, 0, 0, 18), (17, 7, 9, 20, 19), (5, 0, 0, 0, 22), (32, 0, 0, 0, 23), (45, 67, 27, 0, 24)] := rfl
theorem zk_M_tick_27 : z_blk 182 27 = [(2, 0, 0, 0, 27), (0, 1, 0, 0, 28), (64, 186, 2, 211, 29), (49, 61, 35, 0, 32)] := rfl
theorem zk_M_tick_35 : z_blk 182 35 = [(2, 0, 0, 0, 35), (17, 7, 9, 20, 36), (0, 1, 0, 0, 39), (6, 7, 0, 0, 40), (63, 155, 2, 167, 42), (32, 0, 0, 0, 45), (2, 0, 0, 0, 46), (17, 7, 9, 20, 47), (6, 6, 0, 0, 50), (32, 0, 0, 0, 52), (43, 61, 56, 0, 53)] := rfl
theorem zk_M_tick_56 : z_blk 182 56 = [(2, 0, 0, 0, 56), (0, 1, 0, 0, 57), (64, 195, 2, 235, 58), (55, 61, 0, 0, 61)] := rfl
theorem zk_M_tick_61 : z_blk 182 61 = [(15, 1, 1, 0, 61), (54, 17, 0, 0, 64)] := rfl
theorem zk_M_tick_67 : z_blk 182 67 = [(5, 0, 0, 0, 67), (10, 1, 0, 0, 68), (55, 69, 0, 0, 69)] := rfl
theorem zk_M_tick_69 : z_blk 182 69 = [(0, 1, 0, 0, 69), (2, 0, 0, 0, 70), (17, 7, 9, 20, 71), (5, 0, 0, 0, 74), (32, 0, 0, 0, 75), (45, 90, 79, 0, 76)] := rfl
theorem zk_M_tick_79 : z_blk 182 79 = [(2, 0, 0, 0, 79), (0, 1, 0, 0, 80), (64, 198, 2, 238, 81), (15, 1, 1, 0, 84), (54, 69, 0, 0, 87)] := rfl
theorem zk_M_tick_90 : z_blk 182 90 = [(5, 0, 0, 0, 90), (10, 1, 0, 0, 91), (55, 92, 0, 0, 92)] := rfl
theorem zk_M_tick_92 : z_blk 182 92 = [(0, 1, 0, 0, 92), (2, 0, 0, 0, 93), (17, 7, 9, 20, 94), (5, 0, 0, 0, 97), (32, 0, 0, 0, 98), (45, 134, 102, 0, 99)] := rfl
theorem zk_M_tick_102 : z_blk 182 102 = [(2, 0, 0, 0, 102), (17, 7, 9, 20, 103), (0, 1, 0, 0, 106), (6, 21, 0, 0, 107), (2, 0, 0, 0, 109), (17, 7, 9, 20, 110), (0, 1, 0, 0, 113), (5, 0, 0, 0, 114), (63, 155, 2, 167, 115), (32, 0, 0, 0, 118), (20, 0, 0, 0, 119), (63, 155, 2, 167, 120), (40, 0, 0, 0, 123), (32, 0, 0, 0, 124), (5, 1, 0, 0, 125), (20, 0, 0, 0, 126), (33, 0, 0, 0, 127), (15, 1, 1, 0, 128), (54, 92, 0, 0, 131)] := rfl
theorem zk_M_tick_134 : z_blk 182 134 = [(69, 0, 0, 0, 134)] := rfl
theorem ze_M_tick (w0 : Value) (G : zG) (M : zM) : z_call 182 [w0] G M = z_ex 182 (z_blk 182 0) [w0, .null] [] G M := rfl
theorem zr_M_tick : z_rc 182 = 7 := rfl
theorem zk_M_arrives_0 : z_blk 183 0 = [(5, 0, 0, 0, 0), (10, 1, 0, 0, 1), (55, 2, 0, 0, 2)] := rfl
theorem zk_M_arrives_2 : z_blk 183 2 = [(0, 1, 0, 0, 2), (2, 0, 0, 0, 3), (17, 7, 9, 20, 4), (6, 8, 0, 0, 7), (32, 0, 0, 0, 9), (45, 130, 13, 0, 10)] := rfl
theorem zk_M_arrives_13 : z_blk 183 13 = [(2, 0, 0, 0, 13), (17, 7, 9, 20, 14), (7, 265, 0, 0, 17), (6, 13, 0, 0, 20), (0, 1, 0, 0, 22), (22, 0, 0, 0, 23), (20, 0, 0, 0, 24), (5, 3, 0, 0, 25), (20, 0, 0, 0, 26), (32, 0, 0, 0, 27), (2, 0, 0, 0, 28), (17, 7, 9, 20, 29), (6, 6, 0, 0, 32), (32, 0, 0, 0, 34), (42, 44, 38, 0, 35)] := rfl
theorem zk_M_arrives_38 : z_blk 183 38 = [(15, 1, 1, 0, 38), (54, 2, 0, 0, 41)] := rfl
theorem zk_M_arrives_44 : z_blk 183 44 = [(2, 0, 0, 0, 44), (0, 1, 0, 0, 45), (64, 184, 2, 205, 46), (2, 0, 0, 0, 49), (2, 0, 0, 0, 50), (17, 7, 17, 37, 51), (5, 0, 0, 0, 54), (32, 0, 0, 0, 55), (2, 0, 0, 0, 56), (17, 7, 17, 37, 57), (5, 1, 0, 0, 60), (32, 0, 0, 0, 61), (64, 185, 3, 208, 62), (48, 81, 68, 0, 65)] := rfl
theorem zk_M_arrives_68 : z_blk 183 68 = [(2, 0, 0, 0, 68), (2, 0, 0, 0, 69), (17, 7, 17, 37, 70), (5, 1, 0, 0, 73), (32, 0, 0, 0, 74), (64, 186, 2, 211, 75), (48, 95, 81, 0, 78)] := rfl
theorem zk_M_arrives_81 : z_blk 183 81 = [(2, 0, 0, 0, 81), (17, 7, 9, 20, 82), (6, 7, 0, 0, 85), (40, 0, 0, 0, 87), (32, 0, 0, 0, 88), (5, 1, 0, 0, 89), (20, 0, 0, 0, 90), (33, 0, 0, 0, 91), (54, 2, 0, 0, 92)] := rfl
theorem zk_M_arrives_95 : z_blk 183 95 = [(2, 0, 0, 0, 95), (17, 7, 9, 20, 96), (6, 17, 0, 0, 99), (2, 0, 0, 0, 101), (17, 7, 17, 37, 102), (5, 2, 0, 0, 105), (32, 0, 0, 0, 106), (20, 0, 0, 0, 107), (40, 0, 0, 0, 108), (32, 0, 0, 0, 109), (5, 1, 0, 0, 110), (20, 0, 0, 0, 111), (33, 0, 0, 0, 112), (2, 0, 0, 0, 113), (39, 0, 0, 0, 114), (16, 7, 18, 214, 115), (5, 1, 0, 0, 118), (20, 0, 0, 0, 119), (18, 7, 18, 214, 120), (2, 0, 0, 0, 123), (64, 187, 1, 217, 124), (54, 2, 0, 0, 127)] := rfl
theorem zk_M_arrives_130 : z_blk 183 130 = [(69, 0, 0, 0, 130)] := rfl
theorem ze_M_arrives (w0 : Value) (G : zG) (M : zM) : z_call 183 [w0] G M = z_ex 183 (z_blk 183 0) [w0, .null] [] G M := rfl
theorem zr_M_arrives : z_rc 183 = 7 := rfl
theorem zk_M_takesOut_0 : z_blk 184 0 = [(7, 265, 0, 0, 0), (6, 13, 0, 0, 3), (0, 1, 0, 0, 5), (22, 0, 0, 0, 6), (20, 0, 0, 0, 7), (10, 2, 0, 0, 8), (5, 0, 0, 0, 9), (10, 3, 0, 0, 10), (55, 11, 0, 0, 11)] := rfl
theorem zk_M_takesOut_11 : z_blk 184 11 = [(0, 3, 0, 0, 11), (6, 13, 0, 0, 12), (45, 37, 17, 0, 14)] := rfl
theorem zk_M_takesOut_17 : z_blk 184 17 = [(2, 0, 0, 0, 17), (17, 7, 17, 37, 18), (0, 3, 0, 0, 21), (2, 0, 0, 0, 22), (17, 7, 9, 20, 23), (0, 2, 0, 0, 26), (0, 3, 0, 0, 27), (20, 0, 0, 0, 28), (32, 0, 0, 0, 29), (33, 0, 0, 0, 30), (15, 3, 1, 0, 31), (54, 11, 0, 0, 34)] := rfl
theorem zk_M_takesOut_37 : z_blk 184 37 = [(0, 2, 0, 0, 37), (10, 3, 0, 0, 38), (55, 39, 0, 0, 39)] := rfl
theorem zk_M_takesOut_39 : z_blk 184 39 = [(0, 3, 0, 0, 39), (6, 13, 0, 0, 40), (20, 0, 0, 0, 42), (7, 265, 0, 0, 43), (6, 13, 0, 0, 46), (2, 0, 0, 0, 48), (17, 7, 9, 20, 49), (6, 8, 0, 0, 52), (32, 0, 0, 0, 54), (22, 0, 0, 0, 55), (20, 0, 0, 0, 56), (45, 81, 60, 0, 57)] := rfl
theorem zk_M_takesOut_60 : z_blk 184 60 = [(2, 0, 0, 0, 60), (17, 7, 9, 20, 61), (0, 3, 0, 0, 64), (2, 0, 0, 0, 65), (17, 7, 9, 20, 66), (0, 3, 0, 0, 69), (6, 13, 0, 0, 70), (20, 0, 0, 0, 72), (32, 0, 0, 0, 73), (33, 0, 0, 0, 74), (15, 3, 1, 0, 75), (54, 39, 0, 0, 78)] := rfl
theorem zk_M_takesOut_81 : z_blk 184 81 = [(2, 0, 0, 0, 81), (17, 7, 9, 20, 82), (6, 8, 0, 0, 85), (40, 0, 0, 0, 87), (32, 0, 0, 0, 88), (5, 1, 0, 0, 89), (21, 0, 0, 0, 90), (33, 0, 0, 0, 91), (69, 0, 0, 0, 92)] := rfl
theorem ze_M_takesOut (w0 w1 : Value) (G : zG) (M : zM) : z_call 184 [w0, w1] G M = z_ex 184 (z_blk 184 0) [w0, w1, .null, .null] [] G M := rfl
theorem zr_M_takesOut : z_rc 184 = 7 := rfl
theorem zk_M_isWhole_0 : z_blk 185 0 = [(2, 0, 0, 0, 0), (17, 7, 9, 20, 1), (6, 25, 0, 0, 4), (0, 1, 0, 0, 6), (20, 0, 0, 0, 7), (32, 0, 0, 0, 8), (0, 2, 0, 0, 9), (63, 175, 2, 132, 10), (49, 20, 16, 0, 13)] := rfl
theorem zk_M_isWhole_16 : z_blk 185 16 = [(5, 1, 0, 0, 16), (54, 21, 0, 0, 17)] := rfl
theorem zk_M_isWhole_20 : z_blk 185 20 = [(5, 0, 0, 0, 20), (55, 21, 0, 0, 21)] := rfl
theorem zk_M_isWhole_21 : z_blk 185 21 = [(72, 0, 0, 0, 21)] := rfl
theorem ze_M_isWhole (w0 w1 w2 : Value) (G : zG) (M : zM) : z_call 185 [w0, w1, w2] G M = z_ex 185 (z_blk 185 0) [w0, w1, w2] [] G M := rfl
theorem zr_M_isWhole : z_rc 185 = 7 := rfl
theorem zk_M_isDown_0 : z_blk 186 0 = [(2, 0, 0, 0, 0), (17, 7, 9, 20, 1), (0, 1, 0, 0, 4), (5, 0, 0, 0, 5), (63, 155, 2, 167, 6), (32, 0, 0, 0, 9), (5, 2, 0, 0, 10), (43, 18, 14, 0, 11)] := rfl
theorem zk_M_isDown_14 : z_blk 186 14 = [(5, 1, 0, 0, 14), (54, 19, 0, 0, 15)] := rfl
theorem zk_M_isDown_18 : z_blk 186 18 = [(5, 0, 0, 0, 18), (55, 19, 0, 0, 19)] := rfl
theorem zk_M_isDown_19 : z_blk 186 19 = [(72, 0, 0, 0, 19)] := rfl
theorem ze_M_isDown (w0 w1 : Value) (G : zG) (M : zM) : z_call 186 [w0, w1] G M = z_ex 186 (z_blk 186 0) [w0, w1] [] G M := rfl
theorem zr_M_isDown : z_rc 186 = 7 := rfl
theorem zk_M_handles_0 : z_blk 187 0 = [(2, 0, 0, 0, 0), (17, 7, 17, 37, 1), (5, 1, 0, 0, 4), (32, 0, 0, 0, 5), (10, 1, 0, 0, 6), (2, 0, 0, 0, 7), (17, 7, 17, 37, 8), (5, 0, 0, 0, 11), (32, 0, 0, 0, 12), (10, 2, 0, 0, 13), (2, 0, 0, 0, 14), (17, 7, 17, 37, 15), (5, 4, 0, 0, 18), (32, 0, 0, 0, 19), (10, 3, 0, 0, 20), (2, 0, 0, 0, 21), (17, 7, 9, 20, 22), (0, 1, 0, 0, 25), (6, 6, 0, 0, 26), (63, 155, 2, 167, 28), (32, 0, 0, 0, 31), (11, 4, 0, 0, 32), (2, 0, 0, 0, 34), (17, 7, 9, 20, 35), (0, 1, 0, 0, 38), (5, 3, 0, 0, 39), (63, 155, 2, 167, 40), (32, 0, 0, 0, 43), (0, 3, 0, 0, 44), (43, 52, 48, 0, 45)] := rfl
theorem zk_M_handles_48 : z_blk 187 48 = [(5, 1, 0, 0, 48), (54, 53, 0, 0, 49)] := rfl
theorem zk_M_handles_52 : z_blk 187 52 = [(5, 0, 0, 0, 52), (55, 53, 0, 0, 53)] := rfl
theorem zk_M_handles_53 : z_blk 187 53 = [(11, 5, 0, 0, 53), (2, 0, 0, 0, 55), (17, 7, 17, 37, 56), (5, 2, 0, 0, 59), (32, 0, 0, 0, 60), (56, 7, 0, 43, 61)] := rfl
theorem zk_M_handles_104 : z_blk 187 104 = [(2, 0, 0, 0, 104), (0, 1, 0, 0, 105), (64, 188, 2, 190, 106), (48, 133, 112, 0, 109)] := rfl
theorem zk_M_handles_112 : z_blk 187 112 = [(2, 0, 0, 0, 112), (0, 1, 0, 0, 113), (64, 189, 2, 193, 114), (48, 133, 120, 0, 117)] := rfl
theorem zk_M_handles_120 : z_blk 187 120 = [(2, 0, 0, 0, 120), (0, 1, 0, 0, 121), (0, 2, 0, 0, 122), (5, 1, 0, 0, 123), (5, 4294967295, 0, 0, 124), (5, 4294967295, 0, 0, 125), (5, 4294967295, 0, 0, 126), (64, 190, 7, 183, 127), (54, 170, 0, 0, 130)] := rfl
theorem zk_M_handles_133 : z_blk 187 133 = [(2, 0, 0, 0, 133), (0, 1, 0, 0, 134), (64, 188, 2, 190, 135), (48, 170, 141, 0, 138)] := rfl
theorem zk_M_handles_141 : z_blk 187 141 = [(2, 0, 0, 0, 141), (17, 7, 9, 20, 142), (0, 1, 0, 0, 145), (5, 1, 0, 0, 146), (63, 155, 2, 167, 147), (32, 0, 0, 0, 150), (0, 2, 0, 0, 151), (43, 170, 155, 0, 152)] := rfl
theorem zk_M_handles_155 : z_blk 187 155 = [(1, 5, 0, 0, 155), (48, 170, 160, 0, 157)] := rfl
theorem zk_M_handles_160 : z_blk 187 160 = [(2, 0, 0, 0, 160), (0, 1, 0, 0, 161), (0, 2, 0, 0, 162), (5, 3, 0, 0, 163), (0, 3, 0, 0, 164), (5, 4294967295, 0, 0, 165), (5, 4294967295, 0, 0, 166), (64, 190, 7, 183, 167), (55, 170, 0, 0, 170)] := rfl
theorem zk_M_handles_170 : z_blk 187 170 = [(69, 0, 0, 0, 170)] := rfl
theorem zk_M_handles_171 : z_blk 187 171 = [(1, 4, 0, 0, 171), (5, 2, 0, 0, 173), (43, 193, 177, 0, 174)] := rfl
theorem zk_M_handles_177 : z_blk 187 177 = [(2, 0, 0, 0, 177), (17, 7, 9, 20, 178), (0, 1, 0, 0, 181), (5, 5, 0, 0, 182), (63, 155, 2, 167, 183), (40, 0, 0, 0, 186), (32, 0, 0, 0, 187), (5, 1, 0, 0, 188), (0, 2, 0, 0, 189), (26, 0, 0, 0, 190), (24, 0, 0, 0, 191), (33, 0, 0, 0, 192), (55, 193, 0, 0, 193)] := rfl
theorem zk_M_handles_193 : z_blk 187 193 = [(69, 0, 0, 0, 193)] := rfl
theorem zk_M_handles_194 : z_blk 187 194 = [(2, 0, 0, 0, 194), (0, 1, 0, 0, 195), (64, 188, 2, 190, 196), (48, 245, 202, 0, 199)] := rfl
theorem zk_M_handles_202 : z_blk 187 202 = [(2, 0, 0, 0, 202), (0, 1, 0, 0, 203), (64, 189, 2, 193, 204), (48, 245, 210, 0, 207)] := rfl
theorem zk_M_handles_210 : z_blk 187 210 = [(1, 5, 0, 0, 210), (48, 245, 215, 0, 212)] := rfl
theorem zk_M_handles_215 : z_blk 187 215 = [(2, 0, 0, 0, 215), (17, 7, 9, 20, 216), (0, 1, 0, 0, 219), (5, 4, 0, 0, 220), (63, 155, 2, 167, 221), (32, 0, 0, 0, 224), (0, 2, 0, 0, 225), (63, 175, 2, 132, 226), (48, 245, 232, 0, 229)] := rfl
theorem zk_M_handles_232 : z_blk 187 232 = [(2, 0, 0, 0, 232), (0, 1, 0, 0, 233), (0, 2, 0, 0, 234), (5, 3, 0, 0, 235), (0, 3, 0, 0, 236), (5, 4294967295, 0, 0, 237), (5, 4294967295, 0, 0, 238), (64, 190, 7, 183, 239), (54, 255, 0, 0, 242)] := rfl
theorem zk_M_handles_245 : z_blk 187 245 = [(2, 0, 0, 0, 245), (0, 1, 0, 0, 246), (0, 2, 0, 0, 247), (5, 4, 0, 0, 248), (5, 4294967295, 0, 0, 249), (5, 4294967295, 0, 0, 250), (5, 4294967295, 0, 0, 251), (64, 190, 7, 183, 252), (55, 255, 0, 0, 255)] := rfl
theorem zk_M_handles_255 : z_blk 187 255 = [(69, 0, 0, 0, 255)] := rfl
theorem zk_M_handles_256 : z_blk 187 256 = [(1, 4, 0, 0, 256), (5, 5, 0, 0, 258), (43, 293, 262, 0, 259)] := rfl
theorem zk_M_handles_262 : z_blk 187 262 = [(2, 0, 0, 0, 262), (17, 7, 9, 20, 263), (0, 1, 0, 0, 266), (5, 1, 0, 0, 267), (63, 155, 2, 167, 268), (32, 0, 0, 0, 271), (0, 2, 0, 0, 272), (43, 293, 276, 0, 273)] := rfl
theorem zk_M_handles_276 : z_blk 187 276 = [(1, 5, 0, 0, 276), (48, 293, 281, 0, 278)] := rfl
theorem zk_M_handles_281 : z_blk 187 281 = [(2, 0, 0, 0, 281), (0, 1, 0, 0, 282), (5, 1, 0, 0, 283), (2, 0, 0, 0, 284), (17, 7, 9, 20, 285), (5, 2, 0, 0, 288), (32, 0, 0, 0, 289), (64, 158, 4, 179, 290), (55, 293, 0, 0, 293)] := rfl
theorem zk_M_handles_293 : z_blk 187 293 = [(1, 4, 0, 0, 293), (5, 2, 0, 0, 295), (43, 321, 299, 0, 296)] := rfl
theorem zk_M_handles_299 : z_blk 187 299 = [(1, 5, 0, 0, 299), (48, 321, 304, 0, 301)] := rfl
theorem zk_M_handles_304 : z_blk 187 304 = [(2, 0, 0, 0, 304), (17, 7, 9, 20, 305), (0, 1, 0, 0, 308), (6, 20, 0, 0, 309), (63, 155, 2, 167, 311), (40, 0, 0, 0, 314), (32, 0, 0, 0, 315), (5, 1, 0, 0, 316), (0, 2, 0, 0, 317), (26, 0, 0, 0, 318), (24, 0, 0, 0, 319), (33, 0, 0, 0, 320), (55, 321, 0, 0, 321)] := rfl
theorem zk_M_handles_321 : z_blk 187 321 = [(69, 0, 0, 0, 321)] := rfl
theorem zk_M_handles_322 : z_blk 187 322 = [(1, 4, 0, 0, 322), (5, 5, 0, 0, 324), (43, 347, 328, 0, 325)] := rfl
theorem zk_M_handles_328 : z_blk 187 328 = [(2, 0, 0, 0, 328), (17, 7, 9, 20, 329), (0, 1, 0, 0, 332), (5, 1, 0, 0, 333), (63, 155, 2, 167, 334), (32, 0, 0, 0, 337), (0, 2, 0, 0, 338), (43, 347, 342, 0, 339)] := rfl
theorem zk_M_handles_342 : z_blk 187 342 = [(2, 0, 0, 0, 342), (0, 1, 0, 0, 343), (64, 153, 2, 164, 344), (55, 347, 0, 0, 347)] := rfl
theorem zk_M_handles_347 : z_blk 187 347 = [(69, 0, 0, 0, 347)] := rfl
theorem zk_M_handles_348 : z_blk 187 348 = [(2, 0, 0, 0, 348), (0, 1, 0, 0, 349), (2, 0, 0, 0, 350), (17, 7, 17, 37, 351), (5, 5, 0, 0, 354), (32, 0, 0, 0, 355), (0, 3, 0, 0, 356), (64, 191, 4, 199, 357), (69, 0, 0, 0, 360)] := rfl
theorem zk_M_handles_361 : z_blk 187 361 = [(1, 4, 0, 0, 361), (5, 4, 0, 0, 363), (43, 372, 367, 0, 364)] := rfl
theorem zk_M_handles_367 : z_blk 187 367 = [(1, 5, 0, 0, 367), (49, 373, 372, 0, 369)] := rfl
theorem zk_M_handles_372 : z_blk 187 372 = [(69, 0, 0, 0, 372)] := rfl
theorem zk_M_handles_373 : z_blk 187 373 = [(2, 0, 0, 0, 373), (17, 7, 9, 20, 374), (0, 1, 0, 0, 377), (5, 4, 0, 0, 378), (63, 155, 2, 167, 379), (40, 0, 0, 0, 382), (32, 0, 0, 0, 383), (5, 1, 0, 0, 384), (0, 2, 0, 0, 385), (26, 0, 0, 0, 386), (24, 0, 0, 0, 387), (33, 0, 0, 0, 388), (2, 0, 0, 0, 389), (0, 1, 0, 0, 390), (64, 193, 2, 202, 391), (69, 0, 0, 0, 394)] := rfl
theorem zk_M_handles_395 : z_blk 187 395 = [(1, 4, 0, 0, 395), (6, 6, 0, 0, 397), (43, 407, 402, 0, 399)] := rfl
theorem zk_M_handles_402 : z_blk 187 402 = [(1, 5, 0, 0, 402), (49, 408, 407, 0, 404)] := rfl
theorem zk_M_handles_407 : z_blk 187 407 = [(69, 0, 0, 0, 407)] := rfl
theorem zk_M_handles_408 : z_blk 187 408 = [(2, 0, 0, 0, 408), (17, 7, 9, 20, 409), (0, 1, 0, 0, 412), (6, 27, 0, 0, 413), (63, 155, 2, 167, 415), (40, 0, 0, 0, 418), (32, 0, 0, 0, 419), (5, 1, 0, 0, 420), (20, 0, 0, 0, 421), (33, 0, 0, 0, 422), (2, 0, 0, 0, 423), (17, 7, 9, 20, 424), (0, 1, 0, 0, 427), (5, 4, 0, 0, 428), (63, 155, 2, 167, 429), (2, 0, 0, 0, 432), (17, 7, 17, 37, 433), (6, 6, 0, 0, 436), (32, 0, 0, 0, 438), (33, 0, 0, 0, 439), (2, 0, 0, 0, 440), (0, 1, 0, 0, 441), (64, 193, 2, 202, 442), (2, 0, 0, 0, 445), (17, 7, 9, 20, 446), (0, 1, 0, 0, 449), (5, 0, 0, 0, 450), (63, 155, 2, 167, 451), (5, 0, 0, 0, 454), (33, 0, 0, 0, 455), (2, 0, 0, 0, 456), (0, 1, 0, 0, 457), (5, 1, 0, 0, 458), (2, 0, 0, 0, 459), (17, 7, 9, 20, 460), (5, 2, 0, 0, 463), (32, 0, 0, 0, 464), (64, 158, 4, 179, 465), (69, 0, 0, 0, 468)] := rfl
theorem ze_M_handles (w0 : Value) (G : zG) (M : zM) : z_call 187 [w0] G M = z_ex 187 (z_blk 187 0) [w0, .null, .null, .null, .null, .null] [] G M := rfl
theorem zr_M_handles : z_rc 187 = 7 := rfl
theorem zk_M_isNormal_0 : z_blk 188 0 = [(2, 0, 0, 0, 0), (17, 7, 9, 20, 1), (0, 1, 0, 0, 4), (5, 0, 0, 0, 5), (63, 155, 2, 167, 6), (32, 0, 0, 0, 9), (49, 17, 13, 0, 10)] := rfl
theorem zk_M_isNormal_13 : z_blk 188 13 = [(5, 1, 0, 0, 13), (54, 18, 0, 0, 14)] := rfl
theorem zk_M_isNormal_17 : z_blk 188 17 = [(5, 0, 0, 0, 17), (55, 18, 0, 0, 18)] := rfl
theorem zk_M_isNormal_18 : z_blk 188 18 = [(72, 0, 0, 0, 18)] := rfl
theorem ze_M_isNormal (w0 w1 : Value) (G : zG) (M : zM) : z_call 188 [w0, w1] G M = z_ex 188 (z_blk 188 0) [w0, w1] [] G M := rfl
theorem zr_M_isNormal : z_rc 188 = 7 := rfl
theorem zk_M_isChief_0 : z_blk 189 0 = [(2, 0, 0, 0, 0), (17, 7, 9, 20, 1), (0, 1, 0, 0, 4), (5, 1, 0, 0, 5), (63, 155, 2, 167, 6), (32, 0, 0, 0, 9), (0, 1, 0, 0, 10), (43, 18, 14, 0, 11)] := rfl
theorem zk_M_isChief_14 : z_blk 189 14 = [(5, 1, 0, 0, 14), (54, 19, 0, 0, 15)] := rfl
theorem zk_M_isChief_18 : z_blk 189 18 = [(5, 0, 0, 0, 18), (55, 19, 0, 0, 19)] := rfl
theorem zk_M_isChief_19 : z_blk 189 19 = [(72, 0, 0, 0, 19)] := rfl
theorem ze_M_isChief (w0 w1 : Value) (G : zG) (M : zM) : z_call 189 [w0, w1] G M = z_ex 189 (z_blk 189 0) [w0, w1] [] G M := rfl
theorem zr_M_isChief : z_rc 189 = 7 := rfl
theorem zk_M_sends_0 : z_blk 190 0 = [(2, 0, 0, 0, 0), (17, 7, 9, 20, 1), (6, 9, 0, 0, 4), (0, 3, 0, 0, 6), (20, 0, 0, 0, 7), (40, 0, 0, 0, 8), (32, 0, 0, 0, 9), (5, 1, 0, 0, 10), (20, 0, 0, 0, 11), (33, 0, 0, 0, 12), (2, 0, 0, 0, 13), (17, 7, 9, 20, 14), (6, 8, 0, 0, 17), (32, 0, 0, 0, 19), (7, 300, 0, 0, 20), (43, 38, 26, 0, 23)] := rfl
theorem zk_M_sends_26 : z_blk 190 26 = [(2, 0, 0, 0, 26), (17, 7, 9, 20, 27), (6, 7, 0, 0, 30), (40, 0, 0, 0, 32), (32, 0, 0, 0, 33), (5, 1, 0, 0, 34), (20, 0, 0, 0, 35), (33, 0, 0, 0, 36), (69, 0, 0, 0, 37)] := rfl
theorem zk_M_sends_38 : z_blk 190 38 = [(7, 265, 0, 0, 38), (6, 13, 0, 0, 41), (2, 0, 0, 0, 43), (17, 7, 9, 20, 44), (6, 8, 0, 0, 47), (32, 0, 0, 0, 49), (22, 0, 0, 0, 50), (20, 0, 0, 0, 51), (11, 7, 0, 0, 52), (2, 0, 0, 0, 54), (17, 7, 9, 20, 55), (1, 7, 0, 0, 58), (5, 0, 0, 0, 60), (20, 0, 0, 0, 61), (0, 1, 0, 0, 62), (33, 0, 0, 0, 63), (2, 0, 0, 0, 64), (17, 7, 9, 20, 65), (1, 7, 0, 0, 68), (5, 1, 0, 0, 70), (20, 0, 0, 0, 71), (0, 2, 0, 0, 72), (33, 0, 0, 0, 73), (2, 0, 0, 0, 74), (17, 7, 9, 20, 75), (1, 7, 0, 0, 78), (5, 2, 0, 0, 80), (20, 0, 0, 0, 81), (0, 3, 0, 0, 82), (33, 0, 0, 0, 83), (2, 0, 0, 0, 84), (17, 7, 9, 20, 85), (1, 7, 0, 0, 88), (5, 3, 0, 0, 90), (20, 0, 0, 0, 91), (2, 0, 0, 0, 92), (17, 7, 9, 20, 93), (6, 6, 0, 0, 96), (32, 0, 0, 0, 98), (2, 0, 0, 0, 99), (17, 7, 9, 20, 100), (5, 5, 0, 0, 103), (32, 0, 0, 0, 104), (20, 0, 0, 0, 105), (33, 0, 0, 0, 106), (2, 0, 0, 0, 107), (17, 7, 9, 20, 108), (1, 7, 0, 0, 111), (5, 4, 0, 0, 113), (20, 0, 0, 0, 114), (1, 4, 0, 0, 115), (33, 0, 0, 0, 117), (2, 0, 0, 0, 118), (17, 7, 9, 20, 119), (1, 7, 0, 0, 122), (5, 5, 0, 0, 124), (20, 0, 0, 0, 125), (1, 5, 0, 0, 126), (33, 0, 0, 0, 128), (2, 0, 0, 0, 129), (17, 7, 9, 20, 130), (1, 7, 0, 0, 133), (6, 6, 0, 0, 135), (20, 0, 0, 0, 137), (1, 6, 0, 0, 138), (33, 0, 0, 0, 140), (5, 0, 0, 0, 141), (11, 8, 0, 0, 142), (55, 144, 0, 0, 144)] := rfl
theorem zk_M_sends_144 : z_blk 190 144 = [(1, 8, 0, 0, 144), (6, 6, 0, 0, 146), (45, 184, 151, 0, 148)] := rfl
theorem zk_M_sends_151 : z_blk 190 151 = [(2, 0, 0, 0, 151), (17, 7, 9, 20, 152), (1, 7, 0, 0, 155), (6, 7, 0, 0, 157), (20, 0, 0, 0, 159), (1, 8, 0, 0, 160), (20, 0, 0, 0, 162), (2, 0, 0, 0, 163), (17, 7, 9, 20, 164), (0, 1, 0, 0, 167), (6, 8, 0, 0, 168), (1, 8, 0, 0, 170), (20, 0, 0, 0, 172), (63, 155, 2, 167, 173), (32, 0, 0, 0, 176), (33, 0, 0, 0, 177), (15, 8, 1, 0, 178), (54, 144, 0, 0, 181)] := rfl
theorem zk_M_sends_184 : z_blk 190 184 = [(2, 0, 0, 0, 184), (17, 7, 9, 20, 185), (6, 8, 0, 0, 188), (40, 0, 0, 0, 190), (32, 0, 0, 0, 191), (5, 1, 0, 0, 192), (20, 0, 0, 0, 193), (33, 0, 0, 0, 194), (69, 0, 0, 0, 195)] := rfl
theorem ze_M_sends (w0 w1 w2 w3 w4 w5 w6 : Value) (G : zG) (M : zM) : z_call 190 [w0, w1, w2, w3, w4, w5, w6] G M = z_ex 190 (z_blk 190 0) [w0, w1, w2, w3, w4, w5, w6, .null, .null] [] G M := rfl
theorem zr_M_sends : z_rc 190 = 7 := rfl
theorem zk_M_invited_0 : z_blk 191 0 = [(2, 0, 0, 0, 0), (0, 1, 0, 0, 1), (64, 188, 2, 190, 2), (48, 13, 8, 0, 5)] := rfl
theorem zk_M_invited_8 : z_blk 191 8 = [(0, 1, 0, 0, 8), (0, 2, 0, 0, 9), (43, 14, 13, 0, 10)] := rfl
theorem zk_M_invited_13 : z_blk 191 13 = [(69, 0, 0, 0, 13)] := rfl
theorem zk_M_invited_14 : z_blk 191 14 = [(2, 0, 0, 0, 14), (0, 1, 0, 0, 15), (64, 189, 2, 193, 16), (48, 47, 22, 0, 19)] := rfl
theorem zk_M_invited_22 : z_blk 191 22 = [(2, 0, 0, 0, 22), (0, 1, 0, 0, 23), (2, 0, 0, 0, 24), (17, 7, 9, 20, 25), (0, 1, 0, 0, 28), (5, 4, 0, 0, 29), (63, 155, 2, 167, 30), (32, 0, 0, 0, 33), (5, 1, 0, 0, 34), (0, 2, 0, 0, 35), (26, 0, 0, 0, 36), (5, 4294967295, 0, 0, 37), (25, 0, 0, 0, 38), (23, 0, 0, 0, 39), (5, 5, 0, 0, 40), (0, 3, 0, 0, 41), (0, 2, 0, 0, 42), (5, 4294967295, 0, 0, 43), (64, 192, 7, 196, 44), (55, 47, 0, 0, 47)] := rfl
theorem zk_M_invited_47 : z_blk 191 47 = [(2, 0, 0, 0, 47), (17, 7, 9, 20, 48), (0, 1, 0, 0, 51), (5, 0, 0, 0, 52), (63, 155, 2, 167, 53), (5, 1, 0, 0, 56), (33, 0, 0, 0, 57), (2, 0, 0, 0, 58), (17, 7, 9, 20, 59), (0, 1, 0, 0, 62), (5, 1, 0, 0, 63), (63, 155, 2, 167, 64), (0, 2, 0, 0, 67), (33, 0, 0, 0, 68), (2, 0, 0, 0, 69), (0, 1, 0, 0, 70), (0, 3, 0, 0, 71), (64, 156, 3, 170, 72), (2, 0, 0, 0, 75), (17, 7, 9, 20, 76), (0, 1, 0, 0, 79), (6, 26, 0, 0, 80), (63, 155, 2, 167, 82), (40, 0, 0, 0, 85), (32, 0, 0, 0, 86), (5, 1, 0, 0, 87), (20, 0, 0, 0, 88), (33, 0, 0, 0, 89), (2, 0, 0, 0, 90), (17, 7, 9, 20, 91), (0, 1, 0, 0, 94), (5, 4, 0, 0, 95), (63, 155, 2, 167, 96), (5, 1, 0, 0, 99), (0, 1, 0, 0, 100), (26, 0, 0, 0, 101), (33, 0, 0, 0, 102), (2, 0, 0, 0, 103), (0, 1, 0, 0, 104), (64, 157, 2, 173, 105), (2, 0, 0, 0, 108), (0, 1, 0, 0, 109), (0, 2, 0, 0, 110), (6, 6, 0, 0, 111), (0, 3, 0, 0, 113), (5, 4294967295, 0, 0, 114), (5, 4294967295, 0, 0, 115), (64, 190, 7, 183, 116), (2, 0, 0, 0, 119), (0, 1, 0, 0, 120), (6, 6, 0, 0, 121), (5, 3, 0, 0, 123), (2, 0, 0, 0, 124), (17, 7, 9, 20, 125), (5, 3, 0, 0, 128), (32, 0, 0, 0, 129), (22, 0, 0, 0, 130), (64, 158, 4, 179, 131), (69, 0, 0, 0, 134)] := rfl
theorem ze_M_invited (w0 w1 w2 w3 : Value) (G : zG) (M : zM) : z_call 191 [w0, w1, w2, w3] G M = z_ex 191 (z_blk 191 0) [w0, w1, w2, w3] [] G M := rfl
theorem zr_M_invited : z_rc 191 = 7 := rfl
theorem zk_M_sendsAll_0 : z_blk 192 0 = [(5, 0, 0, 0, 0), (11, 7, 0, 0, 1), (55, 3, 0, 0, 3)] := rfl
theorem zk_M_sendsAll_3 : z_blk 192 3 = [(1, 7, 0, 0, 3), (2, 0, 0, 0, 5), (17, 7, 9, 20, 6), (5, 0, 0, 0, 9), (32, 0, 0, 0, 10), (45, 49, 14, 0, 11)] := rfl
theorem zk_M_sendsAll_14 : z_blk 192 14 = [(1, 7, 0, 0, 14), (0, 1, 0, 0, 16), (42, 43, 20, 0, 17)] := rfl
theorem zk_M_sendsAll_20 : z_blk 192 20 = [(0, 2, 0, 0, 20), (1, 7, 0, 0, 21), (63, 175, 2, 132, 23), (48, 43, 29, 0, 26)] := rfl
theorem zk_M_sendsAll_29 : z_blk 192 29 = [(2, 0, 0, 0, 29), (0, 1, 0, 0, 30), (1, 7, 0, 0, 31), (0, 3, 0, 0, 33), (1, 4, 0, 0, 34), (1, 5, 0, 0, 36), (1, 6, 0, 0, 38), (64, 190, 7, 183, 40), (55, 43, 0, 0, 43)] := rfl
theorem zk_M_sendsAll_43 : z_blk 192 43 = [(15, 7, 1, 0, 43), (54, 3, 0, 0, 46)] := rfl
theorem zk_M_sendsAll_49 : z_blk 192 49 = [(69, 0, 0, 0, 49)] := rfl
theorem ze_M_sendsAll (w0 w1 w2 w3 w4 w5 w6 : Value) (G : zG) (M : zM) : z_call 192 [w0, w1, w2, w3, w4, w5, w6] G M = z_ex 192 (z_blk 192 0) [w0, w1, w2, w3, w4, w5, w6, .null] [] G M := rfl
theorem zr_M_sendsAll : z_rc 192 = 7 := rfl
theorem zk_M_learns_0 : z_blk 193 0 = [(5, 0, 0, 0, 0), (10, 2, 0, 0, 1), (55, 2, 0, 0, 2)] := rfl
theorem zk_M_learns_2 : z_blk 193 2 = [(0, 2, 0, 0, 2), (6, 6, 0, 0, 3), (45, 52, 8, 0, 5)] := rfl
theorem zk_M_learns_8 : z_blk 193 8 = [(2, 0, 0, 0, 8), (17, 7, 9, 20, 9), (0, 1, 0, 0, 12), (6, 8, 0, 0, 13), (0, 2, 0, 0, 15), (20, 0, 0, 0, 16), (63, 155, 2, 167, 17), (2, 0, 0, 0, 20), (17, 7, 9, 20, 21), (0, 1, 0, 0, 24), (6, 8, 0, 0, 25), (0, 2, 0, 0, 27), (20, 0, 0, 0, 28), (63, 155, 2, 167, 29), (32, 0, 0, 0, 32), (2, 0, 0, 0, 33), (17, 7, 17, 37, 34), (6, 7, 0, 0, 37), (0, 2, 0, 0, 39), (20, 0, 0, 0, 40), (32, 0, 0, 0, 41), (63, 194, 2, 187, 42), (33, 0, 0, 0, 45), (15, 2, 1, 0, 46), (54, 2, 0, 0, 49)] := rfl
theorem zk_M_learns_52 : z_blk 193 52 = [(69, 0, 0, 0, 52)] := rfl
theorem ze_M_learns (w0 w1 : Value) (G : zG) (M : zM) : z_call 193 [w0, w1] G M = z_ex 193 (z_blk 193 0) [w0, w1, .null] [] G M := rfl
theorem zr_M_learns : z_rc 193 = 7 := rfl
theorem zk_M_more_0 : z_blk 194 0 = [(0, 0, 0, 0, 0), (0, 1, 0, 0, 1), (47, 9, 5, 0, 2)] := rfl
theorem zk_M_more_5 : z_blk 194 5 = [(0, 0, 0, 0, 5), (54, 10, 0, 0, 6)] := rfl
theorem zk_M_more_9 : z_blk 194 9 = [(0, 1, 0, 0, 9), (55, 10, 0, 0, 10)] := rfl
theorem zk_M_more_10 : z_blk 194 10 = [(70, 0, 0, 0, 10)] := rfl
theorem ze_M_more (w0 w1 : Value) (G : zG) (M : zM) : z_call 194 [w0, w1] G M = z_ex 194 (z_blk 194 0) [w0, w1] [] G M := rfl
theorem zr_M_more : z_rc 194 = 7 := rfl
theorem zk_M_rings_0 : z_blk 195 0 = [(2, 0, 0, 0, 0), (17, 7, 9, 20, 1), (0, 1, 0, 0, 4), (6, 6, 0, 0, 5), (63, 155, 2, 167, 7), (32, 0, 0, 0, 10), (56, 8, 0, 29, 11)] := rfl
theorem zk_M_rings_40 : z_blk 195 40 = [(2, 0, 0, 0, 40), (0, 1, 0, 0, 41), (64, 189, 2, 193, 42), (48, 96, 48, 0, 45)] := rfl
theorem zk_M_rings_48 : z_blk 195 48 = [(2, 0, 0, 0, 48), (0, 1, 0, 0, 49), (64, 157, 2, 173, 50), (2, 0, 0, 0, 53), (0, 1, 0, 0, 54), (5, 1, 0, 0, 55), (2, 0, 0, 0, 56), (17, 7, 9, 20, 57), (5, 0, 0, 0, 60), (32, 0, 0, 0, 61), (26, 0, 0, 0, 62), (5, 1, 0, 0, 63), (21, 0, 0, 0, 64), (5, 0, 0, 0, 65), (2, 0, 0, 0, 66), (17, 7, 9, 20, 67), (0, 1, 0, 0, 70), (5, 3, 0, 0, 71), (63, 155, 2, 167, 72), (32, 0, 0, 0, 75), (5, 4294967295, 0, 0, 76), (5, 4294967295, 0, 0, 77), (64, 192, 7, 196, 78), (2, 0, 0, 0, 81), (0, 1, 0, 0, 82), (5, 2, 0, 0, 83), (2, 0, 0, 0, 84), (17, 7, 9, 20, 85), (5, 3, 0, 0, 88), (32, 0, 0, 0, 89), (64, 158, 4, 179, 90), (54, 136, 0, 0, 93)] := rfl
theorem zk_M_rings_96 : z_blk 195 96 = [(2, 0, 0, 0, 96), (0, 1, 0, 0, 97), (2, 0, 0, 0, 98), (17, 7, 9, 20, 99), (0, 1, 0, 0, 102), (5, 1, 0, 0, 103), (63, 155, 2, 167, 104), (32, 0, 0, 0, 107), (5, 2, 0, 0, 108), (2, 0, 0, 0, 109), (17, 7, 9, 20, 110), (0, 1, 0, 0, 113), (5, 3, 0, 0, 114), (63, 155, 2, 167, 115), (32, 0, 0, 0, 118), (5, 4294967295, 0, 0, 119), (5, 4294967295, 0, 0, 120), (64, 190, 7, 183, 121), (2, 0, 0, 0, 124), (0, 1, 0, 0, 125), (5, 5, 0, 0, 126), (2, 0, 0, 0, 127), (17, 7, 9, 20, 128), (5, 3, 0, 0, 131), (32, 0, 0, 0, 132), (64, 158, 4, 179, 133), (55, 136, 0, 0, 136)] := rfl
theorem zk_M_rings_136 : z_blk 195 136 = [(69, 0, 0, 0, 136)] := rfl
theorem zk_M_rings_137 : z_blk 195 137 = [(2, 0, 0, 0, 137), (17, 7, 9, 20, 138), (0, 1, 0, 0, 141), (5, 5, 0, 0, 142), (63, 155, 2, 167, 143), (32, 0, 0, 0, 146), (49, 196, 150, 0, 147)] := rfl
theorem zk_M_rings_150 : z_blk 195 150 = [(2, 0, 0, 0, 150), (17, 7, 9, 20, 151), (0, 1, 0, 0, 154), (5, 4, 0, 0, 155), (63, 155, 2, 167, 156), (32, 0, 0, 0, 159), (2, 0, 0, 0, 160), (17, 7, 9, 20, 161), (0, 1, 0, 0, 164), (6, 20, 0, 0, 165), (63, 155, 2, 167, 167), (32, 0, 0, 0, 170), (5, 4294967295, 0, 0, 171), (25, 0, 0, 0, 172), (23, 0, 0, 0, 173), (5, 1, 0, 0, 174), (0, 1, 0, 0, 175), (26, 0, 0, 0, 176), (5, 4294967295, 0, 0, 177), (25, 0, 0, 0, 178), (23, 0, 0, 0, 179), (49, 196, 183, 0, 180)] := rfl
theorem zk_M_rings_183 : z_blk 195 183 = [(2, 0, 0, 0, 183), (0, 1, 0, 0, 184), (5, 1, 0, 0, 185), (2, 0, 0, 0, 186), (17, 7, 9, 20, 187), (5, 2, 0, 0, 190), (32, 0, 0, 0, 191), (64, 158, 4, 179, 192), (69, 0, 0, 0, 195)] := rfl
theorem zk_M_rings_196 : z_blk 195 196 = [(2, 0, 0, 0, 196), (0, 1, 0, 0, 197), (2, 0, 0, 0, 198), (17, 7, 9, 20, 199), (0, 1, 0, 0, 202), (5, 5, 0, 0, 203), (63, 155, 2, 167, 204), (32, 0, 0, 0, 207), (64, 196, 3, 220, 208), (2, 0, 0, 0, 211), (17, 7, 9, 20, 212), (5, 4, 0, 0, 215), (32, 0, 0, 0, 216), (22, 0, 0, 0, 217), (10, 2, 0, 0, 218), (0, 2, 0, 0, 219), (49, 231, 223, 0, 220)] := rfl
theorem zk_M_rings_223 : z_blk 195 223 = [(2, 0, 0, 0, 223), (0, 1, 0, 0, 224), (64, 197, 2, 223, 225), (54, 238, 0, 0, 228)] := rfl
theorem zk_M_rings_231 : z_blk 195 231 = [(2, 0, 0, 0, 231), (0, 1, 0, 0, 232), (5, 3, 0, 0, 233), (0, 2, 0, 0, 234), (64, 158, 4, 179, 235), (55, 238, 0, 0, 238)] := rfl
theorem zk_M_rings_238 : z_blk 195 238 = [(69, 0, 0, 0, 238)] := rfl
theorem zk_M_rings_239 : z_blk 195 239 = [(2, 0, 0, 0, 239), (0, 1, 0, 0, 240), (64, 197, 2, 223, 241), (69, 0, 0, 0, 244)] := rfl
theorem zk_M_rings_245 : z_blk 195 245 = [(2, 0, 0, 0, 245), (17, 7, 9, 20, 246), (0, 1, 0, 0, 249), (5, 0, 0, 0, 250), (63, 155, 2, 167, 251), (5, 0, 0, 0, 254), (33, 0, 0, 0, 255), (2, 0, 0, 0, 256), (0, 1, 0, 0, 257), (2, 0, 0, 0, 258), (17, 7, 9, 20, 259), (0, 1, 0, 0, 262), (5, 4, 0, 0, 263), (63, 155, 2, 167, 264), (32, 0, 0, 0, 267), (6, 7, 0, 0, 268), (2, 0, 0, 0, 270), (17, 7, 9, 20, 271), (0, 1, 0, 0, 274), (5, 3, 0, 0, 275), (63, 155, 2, 167, 276), (32, 0, 0, 0, 279), (5, 4294967295, 0, 0, 280), (2, 0, 0, 0, 281), (17, 7, 9, 20, 282), (0, 1, 0, 0, 285), (5, 4, 0, 0, 286), (63, 155, 2, 167, 287), (32, 0, 0, 0, 290), (64, 192, 7, 196, 291), (2, 0, 0, 0, 294), (0, 1, 0, 0, 295), (5, 1, 0, 0, 296), (2, 0, 0, 0, 297), (17, 7, 9, 20, 298), (5, 2, 0, 0, 301), (32, 0, 0, 0, 302), (64, 158, 4, 179, 303), (69, 0, 0, 0, 306)] := rfl
theorem zk_M_rings_307 : z_blk 195 307 = [(2, 0, 0, 0, 307), (0, 1, 0, 0, 308), (64, 153, 2, 164, 309), (69, 0, 0, 0, 312)] := rfl
theorem ze_M_rings (w0 w1 : Value) (G : zG) (M : zM) : z_call 195 [w0, w1] G M = z_ex 195 (z_blk 195 0) [w0, w1, .null] [] G M := rfl
theorem zr_M_rings : z_rc 195 = 7 := rfl
theorem zk_M_greaterOf_0 : z_blk 196 0 = [(5, 0, 0, 0, 0), (10, 3, 0, 0, 1), (5, 0, 0, 0, 2), (11, 4, 0, 0, 3), (55, 5, 0, 0, 5)] := rfl
theorem zk_M_greaterOf_5 : z_blk 196 5 = [(1, 4, 0, 0, 5), (2, 0, 0, 0, 7), (17, 7, 9, 20, 8), (5, 0, 0, 0, 11), (32, 0, 0, 0, 12), (45, 61, 16, 0, 13)] := rfl
theorem zk_M_greaterOf_16 : z_blk 196 16 = [(0, 3, 0, 0, 16), (0, 2, 0, 0, 17), (1, 4, 0, 0, 18), (63, 175, 2, 132, 20), (48, 52, 26, 0, 23)] := rfl
theorem zk_M_greaterOf_26 : z_blk 196 26 = [(2, 0, 0, 0, 26), (17, 7, 9, 20, 27), (6, 33, 0, 0, 30), (1, 4, 0, 0, 32), (20, 0, 0, 0, 34), (32, 0, 0, 0, 35), (2, 0, 0, 0, 36), (17, 7, 9, 20, 37), (6, 33, 0, 0, 40), (0, 1, 0, 0, 42), (20, 0, 0, 0, 43), (32, 0, 0, 0, 44), (47, 52, 48, 0, 45)] := rfl
theorem zk_M_greaterOf_48 : z_blk 196 48 = [(5, 1, 0, 0, 48), (54, 53, 0, 0, 49)] := rfl
theorem zk_M_greaterOf_52 : z_blk 196 52 = [(5, 0, 0, 0, 52), (55, 53, 0, 0, 53)] := rfl
theorem zk_M_greaterOf_53 : z_blk 196 53 = [(20, 0, 0, 0, 53), (10, 3, 0, 0, 54), (15, 4, 1, 0, 55), (54, 5, 0, 0, 58)] := rfl
theorem zk_M_greaterOf_61 : z_blk 196 61 = [(0, 3, 0, 0, 61), (70, 0, 0, 0, 62)] := rfl
theorem ze_M_greaterOf (w0 w1 w2 : Value) (G : zG) (M : zM) : z_call 196 [w0, w1, w2] G M = z_ex 196 (z_blk 196 0) [w0, w1, w2, .null, .null] [] G M := rfl
theorem zr_M_greaterOf : z_rc 196 = 7 := rfl
theorem zk_M_merges_0 : z_blk 197 0 = [(2, 0, 0, 0, 0), (17, 7, 9, 20, 1), (0, 1, 0, 0, 4), (5, 5, 0, 0, 5), (63, 155, 2, 167, 6), (32, 0, 0, 0, 9), (2, 0, 0, 0, 10), (17, 7, 9, 20, 11), (0, 1, 0, 0, 14), (5, 4, 0, 0, 15), (63, 155, 2, 167, 16), (32, 0, 0, 0, 19), (24, 0, 0, 0, 20), (5, 1, 0, 0, 21), (0, 1, 0, 0, 22), (26, 0, 0, 0, 23), (5, 4294967295, 0, 0, 24), (25, 0, 0, 0, 25), (23, 0, 0, 0, 26), (10, 2, 0, 0, 27), (2, 0, 0, 0, 28), (0, 1, 0, 0, 29), (64, 154, 2, 176, 30), (2, 0, 0, 0, 33), (17, 7, 9, 20, 34), (0, 1, 0, 0, 37), (6, 25, 0, 0, 38), (63, 155, 2, 167, 40), (40, 0, 0, 0, 43), (32, 0, 0, 0, 44), (5, 1, 0, 0, 45), (20, 0, 0, 0, 46), (33, 0, 0, 0, 47), (2, 0, 0, 0, 48), (17, 7, 9, 20, 49), (0, 1, 0, 0, 52), (5, 0, 0, 0, 53), (63, 155, 2, 167, 54), (5, 1, 0, 0, 57), (33, 0, 0, 0, 58), (2, 0, 0, 0, 59), (0, 1, 0, 0, 60), (0, 2, 0, 0, 61), (5, 5, 0, 0, 62), (2, 0, 0, 0, 63), (17, 7, 9, 20, 64), (0, 1, 0, 0, 67), (5, 3, 0, 0, 68), (63, 155, 2, 167, 69), (32, 0, 0, 0, 72), (0, 1, 0, 0, 73), (5, 4294967295, 0, 0, 74), (64, 192, 7, 196, 75), (2, 0, 0, 0, 78), (0, 1, 0, 0, 79), (5, 4, 0, 0, 80), (5, 2, 0, 0, 81), (2, 0, 0, 0, 82), (17, 7, 9, 20, 83), (5, 3, 0, 0, 86), (32, 0, 0, 0, 87), (22, 0, 0, 0, 88), (64, 158, 4, 179, 89), (69, 0, 0, 0, 92)] := rfl
theorem ze_M_merges (w0 w1 : Value) (G : zG) (M : zM) : z_call 197 [w0, w1] G M = z_ex 197 (z_blk 197 0) [w0, w1, .null] [] G M := rfl
theorem zr_M_merges : z_rc 197 = 7 := rfl
theorem zk_M_works_0 : z_blk 198 0 = [(2, 0, 0, 0, 0), (0, 1, 0, 0, 1), (64, 199, 2, 229, 2), (10, 2, 0, 0, 5), (5, 4294967295, 0, 0, 6), (10, 3, 0, 0, 7), (5, 0, 0, 0, 8), (11, 4, 0, 0, 9), (55, 11, 0, 0, 11)] := rfl
theorem zk_M_works_11 : z_blk 198 11 = [(1, 4, 0, 0, 11), (2, 0, 0, 0, 13), (17, 7, 9, 20, 14), (5, 1, 0, 0, 17), (32, 0, 0, 0, 18), (45, 75, 22, 0, 19)] := rfl
theorem zk_M_works_22 : z_blk 198 22 = [(0, 2, 0, 0, 22), (1, 4, 0, 0, 23), (63, 175, 2, 132, 25), (48, 69, 31, 0, 28)] := rfl
theorem zk_M_works_31 : z_blk 198 31 = [(0, 3, 0, 0, 31), (5, 4294967295, 0, 0, 32), (42, 66, 36, 0, 33)] := rfl
theorem zk_M_works_36 : z_blk 198 36 = [(2, 0, 0, 0, 36), (17, 7, 9, 20, 37), (0, 1, 0, 0, 40), (6, 8, 0, 0, 41), (1, 4, 0, 0, 43), (20, 0, 0, 0, 45), (63, 155, 2, 167, 46), (32, 0, 0, 0, 49), (2, 0, 0, 0, 50), (17, 7, 9, 20, 51), (0, 1, 0, 0, 54), (6, 8, 0, 0, 55), (0, 3, 0, 0, 57), (20, 0, 0, 0, 58), (63, 155, 2, 167, 59), (32, 0, 0, 0, 62), (45, 69, 66, 0, 63)] := rfl
theorem zk_M_works_66 : z_blk 198 66 = [(1, 4, 0, 0, 66), (10, 3, 0, 0, 68), (55, 69, 0, 0, 69)] := rfl
theorem zk_M_works_69 : z_blk 198 69 = [(15, 4, 1, 0, 69), (54, 11, 0, 0, 72)] := rfl
theorem zk_M_works_75 : z_blk 198 75 = [(0, 3, 0, 0, 75), (5, 4294967295, 0, 0, 76), (43, 81, 80, 0, 77)] := rfl
theorem zk_M_works_80 : z_blk 198 80 = [(69, 0, 0, 0, 80)] := rfl
theorem zk_M_works_81 : z_blk 198 81 = [(2, 0, 0, 0, 81), (17, 7, 9, 20, 82), (0, 1, 0, 0, 85), (6, 8, 0, 0, 86), (0, 3, 0, 0, 88), (20, 0, 0, 0, 89), (63, 155, 2, 167, 90), (40, 0, 0, 0, 93), (32, 0, 0, 0, 94), (5, 1, 0, 0, 95), (20, 0, 0, 0, 96), (33, 0, 0, 0, 97), (2, 0, 0, 0, 98), (17, 7, 9, 20, 99), (0, 1, 0, 0, 102), (6, 14, 0, 0, 103), (0, 3, 0, 0, 105), (20, 0, 0, 0, 106), (63, 155, 2, 167, 107), (40, 0, 0, 0, 110), (32, 0, 0, 0, 111), (5, 1, 0, 0, 112), (20, 0, 0, 0, 113), (33, 0, 0, 0, 114), (69, 0, 0, 0, 115)] := rfl
theorem ze_M_works (w0 w1 : Value) (G : zG) (M : zM) : z_call 198 [w0, w1] G M = z_ex 198 (z_blk 198 0) [w0, w1, .null, .null, .null] [] G M := rfl
theorem zr_M_works : z_rc 198 = 7 := rfl
theorem zk_M_partOf_0 : z_blk 199 0 = [(2, 0, 0, 0, 0), (17, 7, 9, 20, 1), (0, 1, 0, 0, 4), (5, 4, 0, 0, 5), (63, 155, 2, 167, 6), (32, 0, 0, 0, 9), (10, 2, 0, 0, 10), (5, 0, 0, 0, 11), (10, 3, 0, 0, 12), (2, 0, 0, 0, 13), (0, 1, 0, 0, 14), (64, 188, 2, 190, 15), (48, 29, 21, 0, 18)] := rfl
theorem zk_M_partOf_21 : z_blk 199 21 = [(0, 2, 0, 0, 21), (0, 1, 0, 0, 22), (63, 175, 2, 132, 23), (49, 31, 29, 0, 26)] := rfl
theorem zk_M_partOf_29 : z_blk 199 29 = [(5, 0, 0, 0, 29), (70, 0, 0, 0, 30)] := rfl
theorem zk_M_partOf_31 : z_blk 199 31 = [(2, 0, 0, 0, 31), (0, 1, 0, 0, 32), (0, 2, 0, 0, 33), (64, 196, 3, 220, 34), (11, 4, 0, 0, 37), (55, 39, 0, 0, 39)] := rfl
theorem zk_M_partOf_39 : z_blk 199 39 = [(1, 4, 0, 0, 39), (2, 0, 0, 0, 41), (17, 7, 9, 20, 42), (5, 1, 0, 0, 45), (32, 0, 0, 0, 46), (45, 69, 50, 0, 47)] := rfl
theorem zk_M_partOf_50 : z_blk 199 50 = [(0, 3, 0, 0, 50), (5, 1, 0, 0, 51), (1, 4, 0, 0, 52), (26, 0, 0, 0, 54), (24, 0, 0, 0, 55), (10, 3, 0, 0, 56), (1, 4, 0, 0, 57), (0, 2, 0, 0, 59), (63, 200, 1, 226, 60), (20, 0, 0, 0, 63), (11, 4, 0, 0, 64), (54, 39, 0, 0, 66)] := rfl
theorem zk_M_partOf_69 : z_blk 199 69 = [(0, 3, 0, 0, 69), (70, 0, 0, 0, 70)] := rfl
theorem ze_M_partOf (w0 w1 : Value) (G : zG) (M : zM) : z_call 199 [w0, w1] G M = z_ex 199 (z_blk 199 0) [w0, w1, .null, .null, .null] [] G M := rfl
theorem zr_M_partOf : z_rc 199 = 7 := rfl
theorem zk_M_ones_0 : z_blk 200 0 = [(5, 0, 0, 0, 0), (10, 1, 0, 0, 1), (0, 0, 0, 0, 2), (10, 2, 0, 0, 3), (55, 4, 0, 0, 4)] := rfl
theorem zk_M_ones_4 : z_blk 200 4 = [(0, 2, 0, 0, 4), (48, 20, 8, 0, 5)] := rfl
theorem zk_M_ones_8 : z_blk 200 8 = [(15, 1, 1, 0, 8), (0, 2, 0, 0, 11), (0, 2, 0, 0, 12), (5, 1, 0, 0, 13), (21, 0, 0, 0, 14), (23, 0, 0, 0, 15), (10, 2, 0, 0, 16), (54, 4, 0, 0, 17)] := rfl
theorem zk_M_ones_20 : z_blk 200 20 = [(0, 1, 0, 0, 20), (70, 0, 0, 0, 21)] := rfl
theorem ze_M_ones (w0 : Value) (G : zG) (M : zM) : z_call 200 [w0] G M = z_ex 200 (z_blk 200 0) [w0, .null, .null] [] G M := rfl
theorem zr_M_ones : z_rc 200 = 7 := rfl
theorem zk_M_cut_0 : z_blk 201 0 = [(2, 0, 0, 0, 0), (5, 0, 0, 0, 1), (18, 7, 0, 48, 2), (2, 0, 0, 0, 5), (2, 0, 0, 0, 6), (0, 1, 0, 0, 7), (64, 202, 2, 250, 8), (49, 18, 14, 0, 11)] := rfl
theorem zk_M_cut_14 : z_blk 201 14 = [(5, 1, 0, 0, 14), (54, 19, 0, 0, 15)] := rfl
theorem zk_M_cut_18 : z_blk 201 18 = [(5, 0, 0, 0, 18), (55, 19, 0, 0, 19)] := rfl
theorem zk_M_cut_19 : z_blk 201 19 = [(5, 1, 0, 0, 19), (5, 1, 0, 0, 20), (64, 163, 4, 148, 21), (48, 29, 27, 0, 24)] := rfl
theorem zk_M_cut_27 : z_blk 201 27 = [(5, 0, 0, 0, 27), (70, 0, 0, 0, 28)] := rfl
theorem zk_M_cut_29 : z_blk 201 29 = [(2, 0, 0, 0, 29), (64, 180, 1, 244, 30), (2, 0, 0, 0, 33), (0, 1, 0, 0, 34), (64, 203, 2, 253, 35), (70, 0, 0, 0, 38)] := rfl
theorem ze_M_cut (w0 w1 : Value) (G : zG) (M : zM) : z_call 201 [w0, w1] G M = z_ex 201 (z_blk 201 0) [w0, w1] [] G M := rfl
theorem zr_M_cut : z_rc 201 = 7 := rfl
theorem zk_M_isSet_0 : z_blk 202 0 = [(0, 1, 0, 0, 0), (5, 0, 0, 0, 1), (5, 1, 0, 0, 2), (2, 0, 0, 0, 3), (17, 7, 9, 20, 4), (5, 0, 0, 0, 7), (32, 0, 0, 0, 8), (26, 0, 0, 0, 9), (5, 1, 0, 0, 10), (21, 0, 0, 0, 11), (63, 162, 3, 94, 12), (72, 0, 0, 0, 15)] := rfl
theorem ze_M_isSet (w0 w1 : Value) (G : zG) (M : zM) : z_call 202 [w0, w1] G M = z_ex 202 (z_blk 202 0) [w0, w1] [] G M := rfl
theorem zr_M_isSet : z_rc 202 = 7 := rfl
theorem zk_M_cuts_0 : z_blk 203 0 = [(5, 0, 0, 0, 0), (10, 2, 0, 0, 1), (5, 0, 0, 0, 2), (10, 3, 0, 0, 3), (55, 4, 0, 0, 4)] := rfl
theorem zk_M_cuts_4 : z_blk 203 4 = [(0, 3, 0, 0, 4), (2, 0, 0, 0, 5), (17, 7, 9, 20, 6), (5, 0, 0, 0, 9), (32, 0, 0, 0, 10), (45, 104, 14, 0, 11)] := rfl
theorem zk_M_cuts_14 : z_blk 203 14 = [(0, 3, 0, 0, 14), (5, 1, 0, 0, 15), (20, 0, 0, 0, 16), (11, 4, 0, 0, 17), (55, 19, 0, 0, 19)] := rfl
theorem zk_M_cuts_19 : z_blk 203 19 = [(1, 4, 0, 0, 19), (2, 0, 0, 0, 21), (17, 7, 9, 20, 22), (5, 0, 0, 0, 25), (32, 0, 0, 0, 26), (45, 98, 30, 0, 27)] := rfl
theorem zk_M_cuts_30 : z_blk 203 30 = [(0, 1, 0, 0, 30), (0, 3, 0, 0, 31), (63, 175, 2, 132, 32), (0, 1, 0, 0, 35), (1, 4, 0, 0, 36), (63, 175, 2, 132, 38), (42, 92, 44, 0, 41)] := rfl
theorem zk_M_cuts_44 : z_blk 203 44 = [(2, 0, 0, 0, 44), (0, 3, 0, 0, 45), (1, 4, 0, 0, 46), (64, 185, 3, 208, 48), (49, 57, 54, 0, 51)] := rfl
theorem zk_M_cuts_54 : z_blk 203 54 = [(54, 92, 0, 0, 54)] := rfl
theorem zk_M_cuts_57 : z_blk 203 57 = [(2, 0, 0, 0, 57), (17, 7, 9, 20, 58), (6, 25, 0, 0, 61), (0, 3, 0, 0, 63), (20, 0, 0, 0, 64), (40, 0, 0, 0, 65), (32, 0, 0, 0, 66), (5, 1, 0, 0, 67), (1, 4, 0, 0, 68), (26, 0, 0, 0, 70), (24, 0, 0, 0, 71), (33, 0, 0, 0, 72), (2, 0, 0, 0, 73), (17, 7, 9, 20, 74), (6, 25, 0, 0, 77), (1, 4, 0, 0, 79), (20, 0, 0, 0, 81), (40, 0, 0, 0, 82), (32, 0, 0, 0, 83), (5, 1, 0, 0, 84), (0, 3, 0, 0, 85), (26, 0, 0, 0, 86), (24, 0, 0, 0, 87), (33, 0, 0, 0, 88), (15, 2, 1, 0, 89), (55, 92, 0, 0, 92)] := rfl
theorem zk_M_cuts_92 : z_blk 203 92 = [(15, 4, 1, 0, 92), (54, 19, 0, 0, 95)] := rfl
theorem zk_M_cuts_98 : z_blk 203 98 = [(15, 3, 1, 0, 98), (54, 4, 0, 0, 101)] := rfl
theorem zk_M_cuts_104 : z_blk 203 104 = [(0, 2, 0, 0, 104), (70, 0, 0, 0, 105)] := rfl
theorem ze_M_cuts (w0 w1 : Value) (G : zG) (M : zM) : z_call 203 [w0, w1] G M = z_ex 203 (z_blk 203 0) [w0, w1, .null, .null, .null] [] G M := rfl
theorem zr_M_cuts : z_rc 203 = 7 := rfl
theorem zk_M_heal_0 : z_blk 204 0 = [(2, 0, 0, 0, 0), (5, 0, 0, 0, 1), (18, 7, 0, 48, 2), (2, 0, 0, 0, 5), (64, 180, 1, 244, 6), (2, 0, 0, 0, 9), (64, 205, 1, 256, 10), (70, 0, 0, 0, 13)] := rfl
theorem ze_M_heal (w0 : Value) (G : zG) (M : zM) : z_call 204 [w0] G M = z_ex 204 (z_blk 204 0) [w0] [] G M := rfl
theorem zr_M_heal : z_rc 204 = 7 := rfl
theorem zk_M_heals_0 : z_blk 205 0 = [(5, 0, 0, 0, 0), (10, 1, 0, 0, 1), (5, 0, 0, 0, 2), (10, 2, 0, 0, 3), (55, 4, 0, 0, 4)] := rfl
theorem zk_M_heals_4 : z_blk 205 4 = [(0, 2, 0, 0, 4), (2, 0, 0, 0, 5), (17, 7, 9, 20, 6), (5, 0, 0, 0, 9), (32, 0, 0, 0, 10), (45, 45, 14, 0, 11)] := rfl
theorem zk_M_heals_14 : z_blk 205 14 = [(0, 1, 0, 0, 14), (2, 0, 0, 0, 15), (17, 7, 9, 20, 16), (6, 25, 0, 0, 19), (0, 2, 0, 0, 21), (20, 0, 0, 0, 22), (32, 0, 0, 0, 23), (63, 200, 1, 226, 24), (20, 0, 0, 0, 27), (10, 1, 0, 0, 28), (2, 0, 0, 0, 29), (17, 7, 9, 20, 30), (6, 25, 0, 0, 33), (0, 2, 0, 0, 35), (20, 0, 0, 0, 36), (5, 0, 0, 0, 37), (33, 0, 0, 0, 38), (15, 2, 1, 0, 39), (54, 4, 0, 0, 42)] := rfl
theorem zk_M_heals_45 : z_blk 205 45 = [(0, 1, 0, 0, 45), (5, 2, 0, 0, 46), (29, 0, 0, 0, 47), (70, 0, 0, 0, 48)] := rfl
theorem ze_M_heals (w0 : Value) (G : zG) (M : zM) : z_call 205 [w0] G M = z_ex 205 (z_blk 205 0) [w0, .null, .null] [] G M := rfl
theorem zr_M_heals : z_rc 205 = 7 := rfl
theorem zk_M_fall_0 : z_blk 206 0 = [(2, 0, 0, 0, 0), (5, 0, 0, 0, 1), (18, 7, 0, 48, 2), (2, 0, 0, 0, 5), (2, 0, 0, 0, 6), (0, 1, 0, 0, 7), (64, 207, 2, 259, 8), (49, 18, 14, 0, 11)] := rfl
theorem zk_M_fall_14 : z_blk 206 14 = [(5, 1, 0, 0, 14), (54, 19, 0, 0, 15)] := rfl
theorem zk_M_fall_18 : z_blk 206 18 = [(5, 0, 0, 0, 18), (55, 19, 0, 0, 19)] := rfl
theorem zk_M_fall_19 : z_blk 206 19 = [(5, 1, 0, 0, 19), (5, 0, 0, 0, 20), (64, 163, 4, 148, 21), (49, 41, 27, 0, 24)] := rfl
theorem zk_M_fall_27 : z_blk 206 27 = [(2, 0, 0, 0, 27), (2, 0, 0, 0, 28), (0, 1, 0, 0, 29), (64, 186, 2, 211, 30), (5, 2, 0, 0, 33), (5, 2, 0, 0, 34), (64, 163, 4, 148, 35), (48, 43, 41, 0, 38)] := rfl
theorem zk_M_fall_41 : z_blk 206 41 = [(5, 0, 0, 0, 41), (70, 0, 0, 0, 42)] := rfl
theorem zk_M_fall_43 : z_blk 206 43 = [(2, 0, 0, 0, 43), (64, 180, 1, 244, 44), (2, 0, 0, 0, 47), (0, 1, 0, 0, 48), (64, 208, 2, 262, 49), (70, 0, 0, 0, 52)] := rfl
theorem ze_M_fall (w0 w1 : Value) (G : zG) (M : zM) : z_call 206 [w0, w1] G M = z_ex 206 (z_blk 206 0) [w0, w1] [] G M := rfl
theorem zr_M_fall : z_rc 206 = 7 := rfl
theorem zk_M_isMember_0 : z_blk 207 0 = [(0, 1, 0, 0, 0), (5, 0, 0, 0, 1), (2, 0, 0, 0, 2), (17, 7, 9, 20, 3), (5, 0, 0, 0, 6), (32, 0, 0, 0, 7), (5, 1, 0, 0, 8), (21, 0, 0, 0, 9), (63, 162, 3, 94, 10), (72, 0, 0, 0, 13)] := rfl
theorem ze_M_isMember (w0 w1 : Value) (G : zG) (M : zM) : z_call 207 [w0, w1] G M = z_ex 207 (z_blk 207 0) [w0, w1] [] G M := rfl
theorem zr_M_isMember : z_rc 207 = 7 := rfl
theorem zk_M_falls_0 : z_blk 208 0 = [(2, 0, 0, 0, 0), (17, 7, 9, 20, 1), (0, 1, 0, 0, 4), (5, 0, 0, 0, 5), (63, 155, 2, 167, 6), (5, 2, 0, 0, 9), (33, 0, 0, 0, 10), (2, 0, 0, 0, 11), (17, 7, 9, 20, 12), (0, 1, 0, 0, 15), (6, 6, 0, 0, 16), (63, 155, 2, 167, 18), (5, 0, 0, 0, 21), (33, 0, 0, 0, 22), (5, 0, 0, 0, 23), (10, 2, 0, 0, 24), (5, 0, 0, 0, 25), (10, 3, 0, 0, 26), (55, 27, 0, 0, 27)] := rfl
theorem zk_M_falls_27 : z_blk 208 27 = [(0, 3, 0, 0, 27), (2, 0, 0, 0, 28), (17, 7, 9, 20, 29), (6, 8, 0, 0, 32), (32, 0, 0, 0, 34), (45, 71, 38, 0, 35)] := rfl
theorem zk_M_falls_38 : z_blk 208 38 = [(0, 2, 0, 0, 38), (2, 0, 0, 0, 39), (17, 7, 9, 20, 40), (7, 265, 0, 0, 43), (6, 13, 0, 0, 46), (0, 3, 0, 0, 48), (22, 0, 0, 0, 49), (20, 0, 0, 0, 50), (5, 1, 0, 0, 51), (20, 0, 0, 0, 52), (32, 0, 0, 0, 53), (0, 1, 0, 0, 54), (43, 62, 58, 0, 55)] := rfl
theorem zk_M_falls_58 : z_blk 208 58 = [(5, 1, 0, 0, 58), (54, 63, 0, 0, 59)] := rfl
theorem zk_M_falls_62 : z_blk 208 62 = [(5, 0, 0, 0, 62), (55, 63, 0, 0, 63)] := rfl
theorem zk_M_falls_63 : z_blk 208 63 = [(20, 0, 0, 0, 63), (10, 2, 0, 0, 64), (15, 3, 1, 0, 65), (54, 27, 0, 0, 68)] := rfl
theorem zk_M_falls_71 : z_blk 208 71 = [(0, 2, 0, 0, 71), (70, 0, 0, 0, 72)] := rfl
theorem ze_M_falls (w0 w1 : Value) (G : zG) (M : zM) : z_call 208 [w0, w1] G M = z_ex 208 (z_blk 208 0) [w0, w1, .null, .null] [] G M := rfl
theorem zr_M_falls : z_rc 208 = 7 := rfl
theorem zk_M_rise_0 : z_blk 209 0 = [(2, 0, 0, 0, 0), (5, 0, 0, 0, 1), (18, 7, 0, 48, 2), (2, 0, 0, 0, 5), (2, 0, 0, 0, 6), (0, 1, 0, 0, 7), (64, 207, 2, 259, 8), (49, 18, 14, 0, 11)] := rfl
theorem zk_M_rise_14 : z_blk 209 14 = [(5, 1, 0, 0, 14), (54, 19, 0, 0, 15)] := rfl
theorem zk_M_rise_18 : z_blk 209 18 = [(5, 0, 0, 0, 18), (55, 19, 0, 0, 19)] := rfl
theorem zk_M_rise_19 : z_blk 209 19 = [(5, 1, 0, 0, 19), (5, 0, 0, 0, 20), (64, 163, 4, 148, 21), (49, 49, 27, 0, 24)] := rfl
theorem zk_M_rise_27 : z_blk 209 27 = [(2, 0, 0, 0, 27), (2, 0, 0, 0, 28), (0, 1, 0, 0, 29), (64, 186, 2, 211, 30), (49, 40, 36, 0, 33)] := rfl
theorem zk_M_rise_36 : z_blk 209 36 = [(5, 1, 0, 0, 36), (54, 41, 0, 0, 37)] := rfl
theorem zk_M_rise_40 : z_blk 209 40 = [(5, 0, 0, 0, 40), (55, 41, 0, 0, 41)] := rfl
theorem zk_M_rise_41 : z_blk 209 41 = [(5, 2, 0, 0, 41), (5, 2, 0, 0, 42), (64, 163, 4, 148, 43), (48, 51, 49, 0, 46)] := rfl
theorem zk_M_rise_49 : z_blk 209 49 = [(5, 0, 0, 0, 49), (70, 0, 0, 0, 50)] := rfl
theorem zk_M_rise_51 : z_blk 209 51 = [(2, 0, 0, 0, 51), (64, 180, 1, 244, 52), (2, 0, 0, 0, 55), (0, 1, 0, 0, 56), (64, 153, 2, 164, 57), (2, 0, 0, 0, 60), (17, 7, 9, 20, 61), (0, 1, 0, 0, 64), (5, 3, 0, 0, 65), (63, 155, 2, 167, 66), (32, 0, 0, 0, 69), (70, 0, 0, 0, 70)] := rfl
theorem ze_M_rise (w0 w1 : Value) (G : zG) (M : zM) : z_call 209 [w0, w1] G M = z_ex 209 (z_blk 209 0) [w0, w1] [] G M := rfl
theorem zr_M_rise : z_rc 209 = 7 := rfl
theorem zk_M_rule_0 : z_blk 210 0 = [(2, 0, 0, 0, 0), (5, 0, 0, 0, 1), (18, 7, 0, 48, 2), (2, 0, 0, 0, 5), (0, 1, 0, 0, 6), (0, 2, 0, 0, 7), (63, 211, 2, 265, 8), (49, 18, 14, 0, 11)] := rfl
theorem zk_M_rule_14 : z_blk 210 14 = [(5, 1, 0, 0, 14), (54, 19, 0, 0, 15)] := rfl
theorem zk_M_rule_18 : z_blk 210 18 = [(5, 0, 0, 0, 18), (55, 19, 0, 0, 19)] := rfl
theorem zk_M_rule_19 : z_blk 210 19 = [(5, 1, 0, 0, 19), (5, 1, 0, 0, 20), (64, 163, 4, 148, 21), (48, 29, 27, 0, 24)] := rfl
theorem zk_M_rule_27 : z_blk 210 27 = [(5, 0, 0, 0, 27), (70, 0, 0, 0, 28)] := rfl
theorem zk_M_rule_29 : z_blk 210 29 = [(2, 0, 0, 0, 29), (64, 180, 1, 244, 30), (2, 0, 0, 0, 33), (17, 7, 9, 20, 34), (5, 2, 0, 0, 37), (0, 1, 0, 0, 38), (20, 0, 0, 0, 39), (32, 0, 0, 0, 40), (10, 3, 0, 0, 41), (2, 0, 0, 0, 42), (17, 7, 9, 20, 43), (5, 2, 0, 0, 46), (0, 1, 0, 0, 47), (20, 0, 0, 0, 48), (0, 2, 0, 0, 49), (33, 0, 0, 0, 50), (0, 3, 0, 0, 51), (70, 0, 0, 0, 52)] := rfl
theorem ze_M_rule (w0 w1 w2 : Value) (G : zG) (M : zM) : z_call 210 [w0, w1, w2] G M = z_ex 210 (z_blk 210 0) [w0, w1, w2, .null] [] G M := rfl
theorem zr_M_rule : z_rc 210 = 7 := rfl
theorem zk_M_isRule_0 : z_blk 211 0 = [(0, 0, 0, 0, 0), (5, 0, 0, 0, 1), (5, 3, 0, 0, 2), (63, 162, 3, 94, 3), (48, 30, 9, 0, 6)] := rfl
theorem zk_M_isRule_9 : z_blk 211 9 = [(0, 1, 0, 0, 9), (78, 4, 0, 139, 10), (0, 0, 0, 0, 13), (32, 0, 0, 0, 14), (78, 5, 0, 142, 15), (0, 0, 0, 0, 18), (32, 0, 0, 0, 19), (63, 162, 3, 94, 20), (48, 30, 26, 0, 23)] := rfl
theorem zk_M_isRule_26 : z_blk 211 26 = [(5, 1, 0, 0, 26), (54, 31, 0, 0, 27)] := rfl
theorem zk_M_isRule_30 : z_blk 211 30 = [(5, 0, 0, 0, 30), (55, 31, 0, 0, 31)] := rfl
theorem zk_M_isRule_31 : z_blk 211 31 = [(72, 0, 0, 0, 31)] := rfl
theorem ze_M_isRule (w0 w1 : Value) (G : zG) (M : zM) : z_call 211 [w0, w1] G M = z_ex 211 (z_blk 211 0) [w0, w1] [] G M := rfl
theorem zr_M_isRule : z_rc 211 = 7 := rfl
theorem zk_M_told_0 : z_blk 212 0 = [(2, 0, 0, 0, 0), (5, 0, 0, 0, 1), (18, 7, 0, 48, 2), (2, 0, 0, 0, 5), (0, 1, 0, 0, 6), (5, 0, 0, 0, 7), (6, 18, 0, 0, 8), (63, 162, 3, 94, 10), (49, 20, 16, 0, 13)] := rfl
theorem zk_M_told_16 : z_blk 212 16 = [(5, 1, 0, 0, 16), (54, 21, 0, 0, 17)] := rfl
theorem zk_M_told_20 : z_blk 212 20 = [(5, 0, 0, 0, 20), (55, 21, 0, 0, 21)] := rfl
theorem zk_M_told_21 : z_blk 212 21 = [(5, 1, 0, 0, 21), (5, 1, 0, 0, 22), (64, 163, 4, 148, 23), (48, 31, 29, 0, 26)] := rfl
theorem zk_M_told_29 : z_blk 212 29 = [(5, 0, 0, 0, 29), (70, 0, 0, 0, 30)] := rfl
theorem zk_M_told_31 : z_blk 212 31 = [(0, 1, 0, 0, 31), (56, 9, 0, 64, 32)] := rfl
theorem zk_M_told_96 : z_blk 212 96 = [(2, 0, 0, 0, 96), (17, 7, 9, 20, 97), (6, 8, 0, 0, 100), (32, 0, 0, 0, 102), (70, 0, 0, 0, 103)] := rfl
theorem zk_M_told_104 : z_blk 212 104 = [(2, 0, 0, 0, 104), (17, 7, 9, 20, 105), (6, 7, 0, 0, 108), (32, 0, 0, 0, 110), (70, 0, 0, 0, 111)] := rfl
theorem zk_M_told_112 : z_blk 212 112 = [(2, 0, 0, 0, 112), (64, 213, 1, 283, 113), (70, 0, 0, 0, 116)] := rfl
theorem zk_M_told_117 : z_blk 212 117 = [(2, 0, 0, 0, 117), (64, 216, 1, 286, 118), (70, 0, 0, 0, 121)] := rfl
theorem zk_M_told_122 : z_blk 212 122 = [(2, 0, 0, 0, 122), (64, 218, 1, 289, 123), (48, 133, 129, 0, 126)] := rfl
theorem zk_M_told_129 : z_blk 212 129 = [(5, 1, 0, 0, 129), (54, 134, 0, 0, 130)] := rfl
theorem zk_M_told_133 : z_blk 212 133 = [(5, 0, 0, 0, 133), (55, 134, 0, 0, 134)] := rfl
theorem zk_M_told_134 : z_blk 212 134 = [(70, 0, 0, 0, 134)] := rfl
theorem zk_M_told_135 : z_blk 212 135 = [(2, 0, 0, 0, 135), (64, 219, 1, 292, 136), (48, 146, 142, 0, 139)] := rfl
theorem zk_M_told_142 : z_blk 212 142 = [(5, 1, 0, 0, 142), (54, 147, 0, 0, 143)] := rfl
theorem zk_M_told_146 : z_blk 212 146 = [(5, 0, 0, 0, 146), (55, 147, 0, 0, 147)] := rfl
theorem zk_M_told_147 : z_blk 212 147 = [(70, 0, 0, 0, 147)] := rfl
theorem zk_M_told_148 : z_blk 212 148 = [(2, 0, 0, 0, 148), (64, 220, 1, 295, 149), (70, 0, 0, 0, 152)] := rfl
theorem zk_M_told_153 : z_blk 212 153 = [(2, 0, 0, 0, 153), (16, 7, 14, 157, 154), (70, 0, 0, 0, 157)] := rfl
theorem zk_M_told_158 : z_blk 212 158 = [(2, 0, 0, 0, 158), (16, 7, 2, 51, 159), (70, 0, 0, 0, 162)] := rfl
theorem zk_M_told_163 : z_blk 212 163 = [(2, 0, 0, 0, 163), (17, 7, 9, 20, 164), (7, 4165, 0, 0, 167), (32, 0, 0, 0, 170), (70, 0, 0, 0, 171)] := rfl
theorem zk_M_told_172 : z_blk 212 172 = [(2, 0, 0, 0, 172), (0, 1, 0, 0, 173), (6, 17, 0, 0, 174), (43, 183, 179, 0, 176)] := rfl
theorem zk_M_told_179 : z_blk 212 179 = [(5, 1, 0, 0, 179), (54, 184, 0, 0, 180)] := rfl
theorem zk_M_told_183 : z_blk 212 183 = [(5, 0, 0, 0, 183), (55, 184, 0, 0, 184)] := rfl
theorem zk_M_told_184 : z_blk 212 184 = [(64, 223, 2, 298, 184), (70, 0, 0, 0, 187)] := rfl
theorem zk_M_told_188 : z_blk 212 188 = [(2, 0, 0, 0, 188), (17, 7, 9, 20, 189), (0, 1, 0, 0, 192), (32, 0, 0, 0, 193), (70, 0, 0, 0, 194)] := rfl
theorem ze_M_told (w0 w1 : Value) (G : zG) (M : zM) : z_call 212 [w0, w1] G M = z_ex 212 (z_blk 212 0) [w0, w1] [] G M := rfl
theorem zr_M_told : z_rc 212 = 7 := rfl
theorem zk_M_circles_0 : z_blk 213 0 = [(5, 0, 0, 0, 0), (10, 1, 0, 0, 1), (5, 0, 0, 0, 2), (10, 2, 0, 0, 3), (55, 4, 0, 0, 4)] := rfl
theorem zk_M_circles_4 : z_blk 213 4 = [(0, 2, 0, 0, 4), (2, 0, 0, 0, 5), (17, 7, 9, 20, 6), (5, 0, 0, 0, 9), (32, 0, 0, 0, 10), (45, 48, 14, 0, 11)] := rfl
theorem zk_M_circles_14 : z_blk 213 14 = [(0, 1, 0, 0, 14), (2, 0, 0, 0, 15), (0, 2, 0, 0, 16), (64, 188, 2, 190, 17), (48, 39, 23, 0, 20)] := rfl
theorem zk_M_circles_23 : z_blk 213 23 = [(2, 0, 0, 0, 23), (0, 2, 0, 0, 24), (64, 214, 2, 268, 25), (63, 215, 1, 271, 28), (0, 2, 0, 0, 31), (43, 39, 35, 0, 32)] := rfl
theorem zk_M_circles_35 : z_blk 213 35 = [(5, 1, 0, 0, 35), (54, 40, 0, 0, 36)] := rfl
theorem zk_M_circles_39 : z_blk 213 39 = [(5, 0, 0, 0, 39), (55, 40, 0, 0, 40)] := rfl
theorem zk_M_circles_40 : z_blk 213 40 = [(20, 0, 0, 0, 40), (10, 1, 0, 0, 41), (15, 2, 1, 0, 42), (54, 4, 0, 0, 45)] := rfl
theorem zk_M_circles_48 : z_blk 213 48 = [(0, 1, 0, 0, 48), (70, 0, 0, 0, 49)] := rfl
theorem ze_M_circles (w0 : Value) (G : zG) (M : zM) : z_call 213 [w0] G M = z_ex 213 (z_blk 213 0) [w0, .null, .null] [] G M := rfl
theorem zr_M_circles : z_rc 213 = 7 := rfl
theorem zk_M_circleOf_0 : z_blk 214 0 = [(5, 0, 0, 0, 0), (10, 2, 0, 0, 1), (5, 0, 0, 0, 2), (10, 3, 0, 0, 3), (55, 4, 0, 0, 4)] := rfl
theorem zk_M_circleOf_4 : z_blk 214 4 = [(0, 3, 0, 0, 4), (2, 0, 0, 0, 5), (17, 7, 9, 20, 6), (5, 0, 0, 0, 9), (32, 0, 0, 0, 10), (45, 69, 14, 0, 11)] := rfl
theorem zk_M_circleOf_14 : z_blk 214 14 = [(2, 0, 0, 0, 14), (0, 1, 0, 0, 15), (64, 188, 2, 190, 16), (48, 69, 22, 0, 19)] := rfl
theorem zk_M_circleOf_22 : z_blk 214 22 = [(0, 2, 0, 0, 22), (2, 0, 0, 0, 23), (0, 3, 0, 0, 24), (64, 188, 2, 190, 25), (48, 60, 31, 0, 28)] := rfl
theorem zk_M_circleOf_31 : z_blk 214 31 = [(2, 0, 0, 0, 31), (17, 7, 9, 20, 32), (0, 3, 0, 0, 35), (5, 3, 0, 0, 36), (63, 155, 2, 167, 37), (32, 0, 0, 0, 40), (2, 0, 0, 0, 41), (17, 7, 9, 20, 42), (0, 1, 0, 0, 45), (5, 3, 0, 0, 46), (63, 155, 2, 167, 47), (32, 0, 0, 0, 50), (43, 60, 54, 0, 51)] := rfl
theorem zk_M_circleOf_54 : z_blk 214 54 = [(5, 1, 0, 0, 54), (0, 3, 0, 0, 55), (26, 0, 0, 0, 56), (54, 61, 0, 0, 57)] := rfl
theorem zk_M_circleOf_60 : z_blk 214 60 = [(5, 0, 0, 0, 60), (55, 61, 0, 0, 61)] := rfl
theorem zk_M_circleOf_61 : z_blk 214 61 = [(24, 0, 0, 0, 61), (10, 2, 0, 0, 62), (15, 3, 1, 0, 63), (54, 4, 0, 0, 66)] := rfl
theorem zk_M_circleOf_69 : z_blk 214 69 = [(0, 2, 0, 0, 69), (70, 0, 0, 0, 70)] := rfl
theorem ze_M_circleOf (w0 w1 : Value) (G : zG) (M : zM) : z_call 214 [w0, w1] G M = z_ex 214 (z_blk 214 0) [w0, w1, .null, .null] [] G M := rfl
theorem zr_M_circleOf : z_rc 214 = 7 := rfl
theorem zk_M_first_0 : z_blk 215 0 = [(5, 0, 0, 0, 0), (10, 1, 0, 0, 1), (55, 2, 0, 0, 2)] := rfl
theorem zk_M_first_2 : z_blk 215 2 = [(0, 0, 0, 0, 2), (0, 1, 0, 0, 3), (63, 175, 2, 132, 4), (49, 16, 10, 0, 7)] := rfl
theorem zk_M_first_10 : z_blk 215 10 = [(15, 1, 1, 0, 10), (54, 2, 0, 0, 13)] := rfl
theorem zk_M_first_16 : z_blk 215 16 = [(0, 1, 0, 0, 16), (70, 0, 0, 0, 17)] := rfl
theorem ze_M_first (w0 : Value) (G : zG) (M : zM) : z_call 215 [w0] G M = z_ex 215 (z_blk 215 0) [w0, .null] [] G M := rfl
theorem zr_M_first : z_rc 215 = 7 := rfl
theorem zk_M_sets_0 : z_blk 216 0 = [(5, 0, 0, 0, 0), (10, 1, 0, 0, 1), (5, 0, 0, 0, 2), (10, 2, 0, 0, 3), (55, 4, 0, 0, 4)] := rfl
theorem zk_M_sets_4 : z_blk 216 4 = [(0, 2, 0, 0, 4), (2, 0, 0, 0, 5), (17, 7, 9, 20, 6), (5, 0, 0, 0, 9), (32, 0, 0, 0, 10), (45, 48, 14, 0, 11)] := rfl
theorem zk_M_sets_14 : z_blk 216 14 = [(0, 1, 0, 0, 14), (2, 0, 0, 0, 15), (0, 2, 0, 0, 16), (64, 186, 2, 211, 17), (49, 39, 23, 0, 20)] := rfl
theorem zk_M_sets_23 : z_blk 216 23 = [(2, 0, 0, 0, 23), (0, 2, 0, 0, 24), (64, 217, 2, 274, 25), (63, 215, 1, 271, 28), (0, 2, 0, 0, 31), (43, 39, 35, 0, 32)] := rfl
theorem zk_M_sets_35 : z_blk 216 35 = [(5, 1, 0, 0, 35), (54, 40, 0, 0, 36)] := rfl
theorem zk_M_sets_39 : z_blk 216 39 = [(5, 0, 0, 0, 39), (55, 40, 0, 0, 40)] := rfl
theorem zk_M_sets_40 : z_blk 216 40 = [(20, 0, 0, 0, 40), (10, 1, 0, 0, 41), (15, 2, 1, 0, 42), (54, 4, 0, 0, 45)] := rfl
theorem zk_M_sets_48 : z_blk 216 48 = [(0, 1, 0, 0, 48), (70, 0, 0, 0, 49)] := rfl
theorem ze_M_sets (w0 : Value) (G : zG) (M : zM) : z_call 216 [w0] G M = z_ex 216 (z_blk 216 0) [w0, .null, .null] [] G M := rfl
theorem zr_M_sets : z_rc 216 = 7 := rfl
theorem zk_M_setOf_0 : z_blk 217 0 = [(2, 0, 0, 0, 0), (0, 1, 0, 0, 1), (64, 186, 2, 211, 2), (48, 12, 8, 0, 5)] := rfl
theorem zk_M_setOf_8 : z_blk 217 8 = [(5, 0, 0, 0, 8), (54, 15, 0, 0, 9)] := rfl
theorem zk_M_setOf_12 : z_blk 217 12 = [(5, 1, 0, 0, 12), (0, 1, 0, 0, 13), (26, 0, 0, 0, 14), (55, 15, 0, 0, 15)] := rfl
theorem zk_M_setOf_15 : z_blk 217 15 = [(10, 2, 0, 0, 15), (5, 0, 0, 0, 16), (10, 3, 0, 0, 17), (55, 18, 0, 0, 18)] := rfl
theorem zk_M_setOf_18 : z_blk 217 18 = [(0, 3, 0, 0, 18), (2, 0, 0, 0, 19), (17, 7, 9, 20, 20), (5, 0, 0, 0, 23), (32, 0, 0, 0, 24), (45, 117, 28, 0, 25)] := rfl
theorem zk_M_setOf_28 : z_blk 217 28 = [(5, 0, 0, 0, 28), (11, 4, 0, 0, 29), (55, 31, 0, 0, 31)] := rfl
theorem zk_M_setOf_31 : z_blk 217 31 = [(1, 4, 0, 0, 31), (2, 0, 0, 0, 33), (17, 7, 9, 20, 34), (5, 0, 0, 0, 37), (32, 0, 0, 0, 38), (45, 111, 42, 0, 39)] := rfl
theorem zk_M_setOf_42 : z_blk 217 42 = [(5, 0, 0, 0, 42), (11, 5, 0, 0, 43), (55, 45, 0, 0, 45)] := rfl
theorem zk_M_setOf_45 : z_blk 217 45 = [(1, 5, 0, 0, 45), (2, 0, 0, 0, 47), (17, 7, 9, 20, 48), (5, 0, 0, 0, 51), (32, 0, 0, 0, 52), (45, 105, 56, 0, 53)] := rfl
theorem zk_M_setOf_56 : z_blk 217 56 = [(0, 2, 0, 0, 56), (1, 4, 0, 0, 57), (63, 175, 2, 132, 59), (48, 99, 65, 0, 62)] := rfl
theorem zk_M_setOf_65 : z_blk 217 65 = [(2, 0, 0, 0, 65), (1, 5, 0, 0, 66), (64, 186, 2, 211, 68), (49, 99, 74, 0, 71)] := rfl
theorem zk_M_setOf_74 : z_blk 217 74 = [(1, 4, 0, 0, 74), (1, 5, 0, 0, 76), (42, 99, 81, 0, 78)] := rfl
theorem zk_M_setOf_81 : z_blk 217 81 = [(2, 0, 0, 0, 81), (1, 4, 0, 0, 82), (1, 5, 0, 0, 84), (64, 185, 3, 208, 86), (48, 99, 92, 0, 89)] := rfl
theorem zk_M_setOf_92 : z_blk 217 92 = [(0, 2, 0, 0, 92), (5, 1, 0, 0, 93), (1, 5, 0, 0, 94), (26, 0, 0, 0, 96), (24, 0, 0, 0, 97), (10, 2, 0, 0, 98), (55, 99, 0, 0, 99)] := rfl
theorem zk_M_setOf_99 : z_blk 217 99 = [(15, 5, 1, 0, 99), (54, 45, 0, 0, 102)] := rfl
theorem zk_M_setOf_105 : z_blk 217 105 = [(15, 4, 1, 0, 105), (54, 31, 0, 0, 108)] := rfl
theorem zk_M_setOf_111 : z_blk 217 111 = [(15, 3, 1, 0, 111), (54, 18, 0, 0, 114)] := rfl
theorem zk_M_setOf_117 : z_blk 217 117 = [(0, 2, 0, 0, 117), (70, 0, 0, 0, 118)] := rfl
theorem ze_M_setOf (w0 w1 : Value) (G : zG) (M : zM) : z_call 217 [w0, w1] G M = z_ex 217 (z_blk 217 0) [w0, w1, .null, .null, .null, .null] [] G M := rfl
theorem zr_M_setOf : z_rc 217 = 7 := rfl
theorem zk_M_isOne_0 : z_blk 218 0 = [(5, 0, 0, 0, 0), (10, 1, 0, 0, 1), (55, 2, 0, 0, 2)] := rfl
theorem zk_M_isOne_2 : z_blk 218 2 = [(0, 1, 0, 0, 2), (2, 0, 0, 0, 3), (17, 7, 9, 20, 4), (5, 0, 0, 0, 7), (32, 0, 0, 0, 8), (45, 67, 12, 0, 9)] := rfl
theorem zk_M_isOne_12 : z_blk 218 12 = [(2, 0, 0, 0, 12), (0, 1, 0, 0, 13), (64, 186, 2, 211, 14), (49, 61, 20, 0, 17)] := rfl
theorem zk_M_isOne_20 : z_blk 218 20 = [(2, 0, 0, 0, 20), (0, 1, 0, 0, 21), (64, 188, 2, 190, 22), (48, 59, 28, 0, 25)] := rfl
theorem zk_M_isOne_28 : z_blk 218 28 = [(2, 0, 0, 0, 28), (0, 1, 0, 0, 29), (64, 214, 2, 268, 30), (2, 0, 0, 0, 33), (0, 1, 0, 0, 34), (64, 217, 2, 274, 35), (43, 59, 41, 0, 38)] := rfl
theorem zk_M_isOne_41 : z_blk 218 41 = [(2, 0, 0, 0, 41), (17, 7, 9, 20, 42), (0, 1, 0, 0, 45), (5, 4, 0, 0, 46), (63, 155, 2, 167, 47), (32, 0, 0, 0, 50), (2, 0, 0, 0, 51), (0, 1, 0, 0, 52), (64, 217, 2, 274, 53), (42, 61, 59, 0, 56)] := rfl
theorem zk_M_isOne_59 : z_blk 218 59 = [(5, 0, 0, 0, 59), (72, 0, 0, 0, 60)] := rfl
theorem zk_M_isOne_61 : z_blk 218 61 = [(15, 1, 1, 0, 61), (54, 2, 0, 0, 64)] := rfl
theorem zk_M_isOne_67 : z_blk 218 67 = [(5, 1, 0, 0, 67), (72, 0, 0, 0, 68)] := rfl
theorem ze_M_isOne (w0 : Value) (G : zG) (M : zM) : z_call 218 [w0] G M = z_ex 218 (z_blk 218 0) [w0, .null] [] G M := rfl
theorem zr_M_isOne : z_rc 218 = 7 := rfl
theorem zk_M_isSound_0 : z_blk 219 0 = [(5, 0, 0, 0, 0), (10, 1, 0, 0, 1), (55, 2, 0, 0, 2)] := rfl
theorem zk_M_isSound_2 : z_blk 219 2 = [(0, 1, 0, 0, 2), (2, 0, 0, 0, 3), (17, 7, 9, 20, 4), (5, 0, 0, 0, 7), (32, 0, 0, 0, 8), (45, 112, 12, 0, 9)] := rfl
theorem zk_M_isSound_12 : z_blk 219 12 = [(2, 0, 0, 0, 12), (0, 1, 0, 0, 13), (64, 188, 2, 190, 14), (49, 23, 20, 0, 17)] := rfl
theorem zk_M_isSound_20 : z_blk 219 20 = [(54, 106, 0, 0, 20)] := rfl
theorem zk_M_isSound_23 : z_blk 219 23 = [(5, 0, 0, 0, 23), (10, 2, 0, 0, 24), (5, 0, 0, 0, 25), (10, 3, 0, 0, 26), (55, 27, 0, 0, 27)] := rfl
theorem zk_M_isSound_27 : z_blk 219 27 = [(0, 3, 0, 0, 27), (2, 0, 0, 0, 28), (17, 7, 9, 20, 29), (5, 0, 0, 0, 32), (32, 0, 0, 0, 33), (45, 99, 37, 0, 34)] := rfl
theorem zk_M_isSound_37 : z_blk 219 37 = [(2, 0, 0, 0, 37), (0, 1, 0, 0, 38), (64, 214, 2, 268, 39), (0, 3, 0, 0, 42), (63, 175, 2, 132, 43), (49, 52, 49, 0, 46)] := rfl
theorem zk_M_isSound_49 : z_blk 219 49 = [(54, 93, 0, 0, 49)] := rfl
theorem zk_M_isSound_52 : z_blk 219 52 = [(0, 2, 0, 0, 52), (2, 0, 0, 0, 53), (0, 3, 0, 0, 54), (64, 189, 2, 193, 55), (48, 65, 61, 0, 58)] := rfl
theorem zk_M_isSound_61 : z_blk 219 61 = [(5, 1, 0, 0, 61), (54, 66, 0, 0, 62)] := rfl
theorem zk_M_isSound_65 : z_blk 219 65 = [(5, 0, 0, 0, 65), (55, 66, 0, 0, 66)] := rfl
theorem zk_M_isSound_66 : z_blk 219 66 = [(20, 0, 0, 0, 66), (10, 2, 0, 0, 67), (2, 0, 0, 0, 68), (17, 7, 9, 20, 69), (0, 3, 0, 0, 72), (5, 1, 0, 0, 73), (63, 155, 2, 167, 74), (32, 0, 0, 0, 77), (2, 0, 0, 0, 78), (17, 7, 9, 20, 79), (0, 1, 0, 0, 82), (5, 1, 0, 0, 83), (63, 155, 2, 167, 84), (32, 0, 0, 0, 87), (42, 93, 91, 0, 88)] := rfl
theorem zk_M_isSound_91 : z_blk 219 91 = [(5, 0, 0, 0, 91), (72, 0, 0, 0, 92)] := rfl
theorem zk_M_isSound_93 : z_blk 219 93 = [(15, 3, 1, 0, 93), (54, 27, 0, 0, 96)] := rfl
theorem zk_M_isSound_99 : z_blk 219 99 = [(0, 2, 0, 0, 99), (5, 1, 0, 0, 100), (47, 106, 104, 0, 101)] := rfl
theorem zk_M_isSound_104 : z_blk 219 104 = [(5, 0, 0, 0, 104), (72, 0, 0, 0, 105)] := rfl
theorem zk_M_isSound_106 : z_blk 219 106 = [(15, 1, 1, 0, 106), (54, 2, 0, 0, 109)] := rfl
theorem zk_M_isSound_112 : z_blk 219 112 = [(5, 1, 0, 0, 112), (72, 0, 0, 0, 113)] := rfl
theorem ze_M_isSound (w0 : Value) (G : zG) (M : zM) : z_call 219 [w0] G M = z_ex 219 (z_blk 219 0) [w0, .null, .null, .null] [] G M := rfl
theorem zr_M_isSound : z_rc 219 = 7 := rfl
theorem zk_M_twice_0 : z_blk 220 0 = [(5, 0, 0, 0, 0), (10, 1, 0, 0, 1), (5, 0, 0, 0, 2), (10, 2, 0, 0, 3), (55, 4, 0, 0, 4)] := rfl
theorem zk_M_twice_4 : z_blk 220 4 = [(0, 2, 0, 0, 4), (2, 0, 0, 0, 5), (17, 7, 9, 20, 6), (5, 1, 0, 0, 9), (32, 0, 0, 0, 10), (45, 34, 14, 0, 11)] := rfl
theorem zk_M_twice_14 : z_blk 220 14 = [(0, 1, 0, 0, 14), (2, 0, 0, 0, 15), (0, 2, 0, 0, 16), (64, 221, 2, 277, 17), (2, 0, 0, 0, 20), (0, 2, 0, 0, 21), (64, 222, 2, 280, 22), (21, 0, 0, 0, 25), (20, 0, 0, 0, 26), (10, 1, 0, 0, 27), (15, 2, 1, 0, 28), (54, 4, 0, 0, 31)] := rfl
theorem zk_M_twice_34 : z_blk 220 34 = [(0, 1, 0, 0, 34), (70, 0, 0, 0, 35)] := rfl
theorem ze_M_twice (w0 : Value) (G : zG) (M : zM) : z_call 220 [w0] G M = z_ex 220 (z_blk 220 0) [w0, .null, .null] [] G M := rfl
theorem zr_M_twice : z_rc 220 = 7 := rfl
theorem zk_M_workOf_0 : z_blk 221 0 = [(5, 0, 0, 0, 0), (10, 2, 0, 0, 1), (5, 0, 0, 0, 2), (10, 3, 0, 0, 3), (55, 4, 0, 0, 4)] := rfl
theorem zk_M_workOf_4 : z_blk 221 4 = [(0, 3, 0, 0, 4), (2, 0, 0, 0, 5), (17, 7, 9, 20, 6), (5, 0, 0, 0, 9), (32, 0, 0, 0, 10), (45, 36, 14, 0, 11)] := rfl
theorem zk_M_workOf_14 : z_blk 221 14 = [(0, 2, 0, 0, 14), (2, 0, 0, 0, 15), (17, 7, 9, 20, 16), (0, 3, 0, 0, 19), (6, 14, 0, 0, 20), (0, 1, 0, 0, 22), (20, 0, 0, 0, 23), (63, 155, 2, 167, 24), (32, 0, 0, 0, 27), (20, 0, 0, 0, 28), (10, 2, 0, 0, 29), (15, 3, 1, 0, 30), (54, 4, 0, 0, 33)] := rfl
theorem zk_M_workOf_36 : z_blk 221 36 = [(0, 2, 0, 0, 36), (70, 0, 0, 0, 37)] := rfl
theorem ze_M_workOf (w0 w1 : Value) (G : zG) (M : zM) : z_call 221 [w0, w1] G M = z_ex 221 (z_blk 221 0) [w0, w1, .null, .null] [] G M := rfl
theorem zr_M_workOf : z_rc 221 = 7 := rfl
theorem zk_M_greatestOf_0 : z_blk 222 0 = [(5, 0, 0, 0, 0), (10, 2, 0, 0, 1), (5, 0, 0, 0, 2), (10, 3, 0, 0, 3), (55, 4, 0, 0, 4)] := rfl
theorem zk_M_greatestOf_4 : z_blk 222 4 = [(0, 3, 0, 0, 4), (2, 0, 0, 0, 5), (17, 7, 9, 20, 6), (5, 0, 0, 0, 9), (32, 0, 0, 0, 10), (45, 38, 14, 0, 11)] := rfl
theorem zk_M_greatestOf_14 : z_blk 222 14 = [(0, 2, 0, 0, 14), (2, 0, 0, 0, 15), (17, 7, 9, 20, 16), (0, 3, 0, 0, 19), (6, 8, 0, 0, 20), (0, 1, 0, 0, 22), (20, 0, 0, 0, 23), (63, 155, 2, 167, 24), (32, 0, 0, 0, 27), (63, 194, 2, 187, 28), (10, 2, 0, 0, 31), (15, 3, 1, 0, 32), (54, 4, 0, 0, 35)] := rfl
theorem zk_M_greatestOf_38 : z_blk 222 38 = [(0, 2, 0, 0, 38), (70, 0, 0, 0, 39)] := rfl
theorem ze_M_greatestOf (w0 w1 : Value) (G : zG) (M : zM) : z_call 222 [w0, w1] G M = z_ex 222 (z_blk 222 0) [w0, w1, .null, .null] [] G M := rfl
theorem zr_M_greatestOf : z_rc 222 = 7 := rfl
theorem zk_M_jobsIn_0 : z_blk 223 0 = [(5, 0, 0, 0, 0), (10, 2, 0, 0, 1), (5, 0, 0, 0, 2), (10, 3, 0, 0, 3), (55, 4, 0, 0, 4)] := rfl
theorem zk_M_jobsIn_4 : z_blk 223 4 = [(0, 3, 0, 0, 4), (2, 0, 0, 0, 5), (17, 7, 9, 20, 6), (5, 1, 0, 0, 9), (32, 0, 0, 0, 10), (45, 97, 14, 0, 11)] := rfl
theorem zk_M_jobsIn_14 : z_blk 223 14 = [(5, 0, 0, 0, 14), (11, 4, 0, 0, 15), (5, 0, 0, 0, 17), (11, 5, 0, 0, 18), (55, 20, 0, 0, 20)] := rfl
theorem zk_M_jobsIn_20 : z_blk 223 20 = [(1, 5, 0, 0, 20), (2, 0, 0, 0, 22), (17, 7, 9, 20, 23), (5, 0, 0, 0, 26), (32, 0, 0, 0, 27), (45, 60, 31, 0, 28)] := rfl
theorem zk_M_jobsIn_31 : z_blk 223 31 = [(1, 4, 0, 0, 31), (2, 0, 0, 0, 33), (1, 5, 0, 0, 34), (64, 199, 2, 229, 36), (0, 3, 0, 0, 39), (63, 175, 2, 132, 40), (48, 50, 46, 0, 43)] := rfl
theorem zk_M_jobsIn_46 : z_blk 223 46 = [(5, 1, 0, 0, 46), (54, 51, 0, 0, 47)] := rfl
theorem zk_M_jobsIn_50 : z_blk 223 50 = [(5, 0, 0, 0, 50), (55, 51, 0, 0, 51)] := rfl
theorem zk_M_jobsIn_51 : z_blk 223 51 = [(20, 0, 0, 0, 51), (11, 4, 0, 0, 52), (15, 5, 1, 0, 54), (54, 20, 0, 0, 57)] := rfl
theorem zk_M_jobsIn_60 : z_blk 223 60 = [(0, 2, 0, 0, 60), (0, 1, 0, 0, 61), (48, 79, 65, 0, 62)] := rfl
theorem zk_M_jobsIn_65 : z_blk 223 65 = [(1, 4, 0, 0, 65), (5, 1, 0, 0, 67), (47, 75, 71, 0, 68)] := rfl
theorem zk_M_jobsIn_71 : z_blk 223 71 = [(5, 1, 0, 0, 71), (54, 89, 0, 0, 72)] := rfl
theorem zk_M_jobsIn_75 : z_blk 223 75 = [(5, 0, 0, 0, 75), (54, 89, 0, 0, 76)] := rfl
theorem zk_M_jobsIn_79 : z_blk 223 79 = [(1, 4, 0, 0, 79), (49, 88, 84, 0, 81)] := rfl
theorem zk_M_jobsIn_84 : z_blk 223 84 = [(5, 1, 0, 0, 84), (54, 89, 0, 0, 85)] := rfl
theorem zk_M_jobsIn_88 : z_blk 223 88 = [(5, 0, 0, 0, 88), (55, 89, 0, 0, 89)] := rfl
theorem zk_M_jobsIn_89 : z_blk 223 89 = [(20, 0, 0, 0, 89), (10, 2, 0, 0, 90), (15, 3, 1, 0, 91), (54, 4, 0, 0, 94)] := rfl
theorem zk_M_jobsIn_97 : z_blk 223 97 = [(0, 2, 0, 0, 97), (70, 0, 0, 0, 98)] := rfl
theorem ze_M_jobsIn (w0 w1 : Value) (G : zG) (M : zM) : z_call 223 [w0, w1] G M = z_ex 223 (z_blk 223 0) [w0, w1, .null, .null, .null, .null] [] G M := rfl
theorem zr_M_jobsIn : z_rc 223 = 7 := rfl
theorem zk_M_member_0 : z_blk 224 0 = [(2, 0, 0, 0, 0), (5, 0, 0, 0, 1), (18, 7, 0, 48, 2), (2, 0, 0, 0, 5), (2, 0, 0, 0, 6), (0, 1, 0, 0, 7), (64, 207, 2, 259, 8), (49, 18, 14, 0, 11)] := rfl
theorem zk_M_member_14 : z_blk 224 14 = [(5, 1, 0, 0, 14), (54, 19, 0, 0, 15)] := rfl
theorem zk_M_member_18 : z_blk 224 18 = [(5, 0, 0, 0, 18), (55, 19, 0, 0, 19)] := rfl
theorem zk_M_member_19 : z_blk 224 19 = [(5, 1, 0, 0, 19), (5, 0, 0, 0, 20), (64, 163, 4, 148, 21), (49, 51, 27, 0, 24)] := rfl
theorem zk_M_member_27 : z_blk 224 27 = [(2, 0, 0, 0, 27), (0, 2, 0, 0, 28), (5, 0, 0, 0, 29), (6, 12, 0, 0, 30), (63, 162, 3, 94, 32), (49, 42, 38, 0, 35)] := rfl
theorem zk_M_member_38 : z_blk 224 38 = [(5, 1, 0, 0, 38), (54, 43, 0, 0, 39)] := rfl
theorem zk_M_member_42 : z_blk 224 42 = [(5, 0, 0, 0, 42), (55, 43, 0, 0, 43)] := rfl
theorem zk_M_member_43 : z_blk 224 43 = [(5, 2, 0, 0, 43), (5, 1, 0, 0, 44), (64, 163, 4, 148, 45), (48, 53, 51, 0, 48)] := rfl
theorem zk_M_member_51 : z_blk 224 51 = [(5, 0, 0, 0, 51), (70, 0, 0, 0, 52)] := rfl
theorem zk_M_member_53 : z_blk 224 53 = [(0, 2, 0, 0, 53), (56, 10, 0, 66, 54)] := rfl
theorem zk_M_member_120 : z_blk 224 120 = [(2, 0, 0, 0, 120), (17, 7, 9, 20, 121), (6, 33, 0, 0, 124), (0, 1, 0, 0, 126), (20, 0, 0, 0, 127), (32, 0, 0, 0, 128), (70, 0, 0, 0, 129)] := rfl
theorem zk_M_member_130 : z_blk 224 130 = [(2, 0, 0, 0, 130), (17, 7, 9, 20, 131), (0, 1, 0, 0, 134), (6, 6, 0, 0, 135), (63, 155, 2, 167, 137), (32, 0, 0, 0, 140), (49, 148, 144, 0, 141)] := rfl
theorem zk_M_member_144 : z_blk 224 144 = [(5, 0, 0, 0, 144), (54, 167, 0, 0, 145)] := rfl
theorem zk_M_member_148 : z_blk 224 148 = [(2, 0, 0, 0, 148), (17, 7, 9, 20, 149), (0, 1, 0, 0, 152), (6, 7, 0, 0, 153), (63, 155, 2, 167, 155), (32, 0, 0, 0, 158), (2, 0, 0, 0, 159), (17, 7, 9, 20, 160), (6, 6, 0, 0, 163), (32, 0, 0, 0, 165), (21, 0, 0, 0, 166), (55, 167, 0, 0, 167)] := rfl
theorem zk_M_member_167 : z_blk 224 167 = [(70, 0, 0, 0, 167)] := rfl
theorem zk_M_member_168 : z_blk 224 168 = [(2, 0, 0, 0, 168), (0, 1, 0, 0, 169), (64, 199, 2, 229, 170), (70, 0, 0, 0, 173)] := rfl
theorem zk_M_member_174 : z_blk 224 174 = [(2, 0, 0, 0, 174), (0, 1, 0, 0, 175), (64, 217, 2, 274, 176), (70, 0, 0, 0, 179)] := rfl
theorem zk_M_member_180 : z_blk 224 180 = [(2, 0, 0, 0, 180), (0, 1, 0, 0, 181), (64, 214, 2, 268, 182), (70, 0, 0, 0, 185)] := rfl
theorem zk_M_member_186 : z_blk 224 186 = [(2, 0, 0, 0, 186), (17, 7, 9, 20, 187), (0, 1, 0, 0, 190), (6, 20, 0, 0, 191), (63, 155, 2, 167, 193), (32, 0, 0, 0, 196), (70, 0, 0, 0, 197)] := rfl
theorem zk_M_member_198 : z_blk 224 198 = [(2, 0, 0, 0, 198), (17, 7, 9, 20, 199), (0, 1, 0, 0, 202), (0, 2, 0, 0, 203), (5, 1, 0, 0, 204), (21, 0, 0, 0, 205), (63, 155, 2, 167, 206), (32, 0, 0, 0, 209), (70, 0, 0, 0, 210)] := rfl
theorem ze_M_member (w0 w1 w2 : Value) (G : zG) (M : zM) : z_call 224 [w0, w1, w2] G M = z_ex 224 (z_blk 224 0) [w0, w1, w2] [] G M := rfl
theorem zr_M_member : z_rc 224 = 7 := rfl
theorem zk_M_units_0 : z_blk 225 0 = [(2, 0, 0, 0, 0), (5, 0, 0, 0, 1), (18, 7, 0, 48, 2), (2, 0, 0, 0, 5), (2, 0, 0, 0, 6), (0, 1, 0, 0, 7), (64, 207, 2, 259, 8), (48, 22, 14, 0, 11)] := rfl
theorem zk_M_units_14 : z_blk 225 14 = [(2, 0, 0, 0, 14), (0, 2, 0, 0, 15), (64, 226, 2, 302, 16), (49, 26, 22, 0, 19)] := rfl
theorem zk_M_units_22 : z_blk 225 22 = [(5, 1, 0, 0, 22), (54, 27, 0, 0, 23)] := rfl
theorem zk_M_units_26 : z_blk 225 26 = [(5, 0, 0, 0, 26), (55, 27, 0, 0, 27)] := rfl
theorem zk_M_units_27 : z_blk 225 27 = [(5, 1, 0, 0, 27), (5, 0, 0, 0, 28), (64, 163, 4, 148, 29), (49, 58, 35, 0, 32)] := rfl
theorem zk_M_units_35 : z_blk 225 35 = [(2, 0, 0, 0, 35), (0, 3, 0, 0, 36), (5, 0, 0, 0, 37), (5, 1, 0, 0, 38), (63, 162, 3, 94, 39), (49, 49, 45, 0, 42)] := rfl
theorem zk_M_units_45 : z_blk 225 45 = [(5, 1, 0, 0, 45), (54, 50, 0, 0, 46)] := rfl
theorem zk_M_units_49 : z_blk 225 49 = [(5, 0, 0, 0, 49), (55, 50, 0, 0, 50)] := rfl
theorem zk_M_units_50 : z_blk 225 50 = [(5, 2, 0, 0, 50), (5, 1, 0, 0, 51), (64, 163, 4, 148, 52), (48, 60, 58, 0, 55)] := rfl
theorem zk_M_units_58 : z_blk 225 58 = [(5, 0, 0, 0, 58), (70, 0, 0, 0, 59)] := rfl
theorem zk_M_units_60 : z_blk 225 60 = [(2, 0, 0, 0, 60), (17, 7, 9, 20, 61), (0, 1, 0, 0, 64), (0, 3, 0, 0, 65), (49, 74, 69, 0, 66)] := rfl
theorem zk_M_units_69 : z_blk 225 69 = [(6, 8, 0, 0, 69), (54, 76, 0, 0, 71)] := rfl
theorem zk_M_units_74 : z_blk 225 74 = [(6, 14, 0, 0, 74), (55, 76, 0, 0, 76)] := rfl
theorem zk_M_units_76 : z_blk 225 76 = [(0, 2, 0, 0, 76), (20, 0, 0, 0, 77), (63, 155, 2, 167, 78), (32, 0, 0, 0, 81), (70, 0, 0, 0, 82)] := rfl
theorem ze_M_units (w0 w1 w2 w3 : Value) (G : zG) (M : zM) : z_call 225 [w0, w1, w2, w3] G M = z_ex 225 (z_blk 225 0) [w0, w1, w2, w3] [] G M := rfl
theorem zr_M_units : z_rc 225 = 7 := rfl
theorem zk_M_isJob_0 : z_blk 226 0 = [(0, 1, 0, 0, 0), (5, 0, 0, 0, 1), (2, 0, 0, 0, 2), (17, 7, 9, 20, 3), (5, 1, 0, 0, 6), (32, 0, 0, 0, 7), (5, 1, 0, 0, 8), (21, 0, 0, 0, 9), (63, 162, 3, 94, 10), (72, 0, 0, 0, 13)] := rfl
theorem ze_M_isJob (w0 w1 : Value) (G : zG) (M : zM) : z_call 226 [w0, w1] G M = z_ex 226 (z_blk 226 0) [w0, w1] [] G M := rfl
theorem zr_M_isJob : z_rc 226 = 7 := rfl
theorem zk_M_job_0 : z_blk 227 0 = [(2, 0, 0, 0, 0), (5, 0, 0, 0, 1), (18, 7, 0, 48, 2), (2, 0, 0, 0, 5), (2, 0, 0, 0, 6), (0, 1, 0, 0, 7), (64, 226, 2, 302, 8), (49, 18, 14, 0, 11)] := rfl
theorem zk_M_job_14 : z_blk 227 14 = [(5, 1, 0, 0, 14), (54, 19, 0, 0, 15)] := rfl
theorem zk_M_job_18 : z_blk 227 18 = [(5, 0, 0, 0, 18), (55, 19, 0, 0, 19)] := rfl
theorem zk_M_job_19 : z_blk 227 19 = [(5, 1, 0, 0, 19), (5, 0, 0, 0, 20), (64, 163, 4, 148, 21), (49, 50, 27, 0, 24)] := rfl
theorem zk_M_job_27 : z_blk 227 27 = [(2, 0, 0, 0, 27), (0, 2, 0, 0, 28), (5, 0, 0, 0, 29), (5, 3, 0, 0, 30), (63, 162, 3, 94, 31), (49, 41, 37, 0, 34)] := rfl
theorem zk_M_job_37 : z_blk 227 37 = [(5, 1, 0, 0, 37), (54, 42, 0, 0, 38)] := rfl
theorem zk_M_job_41 : z_blk 227 41 = [(5, 0, 0, 0, 41), (55, 42, 0, 0, 42)] := rfl
theorem zk_M_job_42 : z_blk 227 42 = [(5, 2, 0, 0, 42), (5, 1, 0, 0, 43), (64, 163, 4, 148, 44), (48, 52, 50, 0, 47)] := rfl
theorem zk_M_job_50 : z_blk 227 50 = [(5, 0, 0, 0, 50), (70, 0, 0, 0, 51)] := rfl
theorem zk_M_job_52 : z_blk 227 52 = [(0, 2, 0, 0, 52), (5, 3, 0, 0, 53), (45, 88, 57, 0, 54)] := rfl
theorem zk_M_job_57 : z_blk 227 57 = [(0, 2, 0, 0, 57), (49, 69, 61, 0, 58)] := rfl
theorem zk_M_job_61 : z_blk 227 61 = [(2, 0, 0, 0, 61), (0, 1, 0, 0, 62), (64, 221, 2, 277, 63), (54, 87, 0, 0, 66)] := rfl
theorem zk_M_job_69 : z_blk 227 69 = [(0, 2, 0, 0, 69), (5, 1, 0, 0, 70), (43, 82, 74, 0, 71)] := rfl
theorem zk_M_job_74 : z_blk 227 74 = [(2, 0, 0, 0, 74), (0, 1, 0, 0, 75), (64, 222, 2, 280, 76), (54, 87, 0, 0, 79)] := rfl
theorem zk_M_job_82 : z_blk 227 82 = [(2, 0, 0, 0, 82), (0, 1, 0, 0, 83), (64, 228, 2, 305, 84), (55, 87, 0, 0, 87)] := rfl
theorem zk_M_job_87 : z_blk 227 87 = [(70, 0, 0, 0, 87)] := rfl
theorem zk_M_job_88 : z_blk 227 88 = [(5, 0, 0, 0, 88), (10, 3, 0, 0, 89), (5, 0, 0, 0, 90), (11, 4, 0, 0, 91), (55, 93, 0, 0, 93)] := rfl
theorem zk_M_job_93 : z_blk 227 93 = [(1, 4, 0, 0, 93), (2, 0, 0, 0, 95), (17, 7, 9, 20, 96), (5, 0, 0, 0, 99), (32, 0, 0, 0, 100), (45, 134, 104, 0, 101)] := rfl
theorem zk_M_job_104 : z_blk 227 104 = [(0, 3, 0, 0, 104), (2, 0, 0, 0, 105), (1, 4, 0, 0, 106), (64, 199, 2, 229, 108), (0, 1, 0, 0, 111), (63, 175, 2, 132, 112), (48, 125, 118, 0, 115)] := rfl
theorem zk_M_job_118 : z_blk 227 118 = [(5, 1, 0, 0, 118), (1, 4, 0, 0, 119), (26, 0, 0, 0, 121), (54, 126, 0, 0, 122)] := rfl
theorem zk_M_job_125 : z_blk 227 125 = [(5, 0, 0, 0, 125), (55, 126, 0, 0, 126)] := rfl
theorem zk_M_job_126 : z_blk 227 126 = [(24, 0, 0, 0, 126), (10, 3, 0, 0, 127), (15, 4, 1, 0, 128), (54, 93, 0, 0, 131)] := rfl
theorem zk_M_job_134 : z_blk 227 134 = [(0, 3, 0, 0, 134), (70, 0, 0, 0, 135)] := rfl
theorem ze_M_job (w0 w1 w2 : Value) (G : zG) (M : zM) : z_call 227 [w0, w1, w2] G M = z_ex 227 (z_blk 227 0) [w0, w1, w2, .null, .null] [] G M := rfl
theorem zr_M_job : z_rc 227 = 7 := rfl
theorem zk_M_leastOf_0 : z_blk 228 0 = [(2, 0, 0, 0, 0), (17, 7, 9, 20, 1), (5, 0, 0, 0, 4), (6, 8, 0, 0, 5), (0, 1, 0, 0, 7), (20, 0, 0, 0, 8), (63, 155, 2, 167, 9), (32, 0, 0, 0, 12), (10, 2, 0, 0, 13), (5, 1, 0, 0, 14), (10, 3, 0, 0, 15), (55, 16, 0, 0, 16)] := rfl
theorem zk_M_leastOf_16 : z_blk 228 16 = [(0, 3, 0, 0, 16), (2, 0, 0, 0, 17), (17, 7, 9, 20, 18), (5, 0, 0, 0, 21), (32, 0, 0, 0, 22), (45, 50, 26, 0, 23)] := rfl
theorem zk_M_leastOf_26 : z_blk 228 26 = [(0, 2, 0, 0, 26), (2, 0, 0, 0, 27), (17, 7, 9, 20, 28), (0, 3, 0, 0, 31), (6, 8, 0, 0, 32), (0, 1, 0, 0, 34), (20, 0, 0, 0, 35), (63, 155, 2, 167, 36), (32, 0, 0, 0, 39), (63, 172, 2, 90, 40), (10, 2, 0, 0, 43), (15, 3, 1, 0, 44), (54, 16, 0, 0, 47)] := rfl
theorem zk_M_leastOf_50 : z_blk 228 50 = [(0, 2, 0, 0, 50), (70, 0, 0, 0, 51)] := rfl
theorem ze_M_leastOf (w0 w1 : Value) (G : zG) (M : zM) : z_call 228 [w0, w1] G M = z_ex 228 (z_blk 228 0) [w0, w1, .null, .null] [] G M := rfl
theorem zr_M_leastOf : z_rc 228 = 7 := rfl
theorem zk_M_link_0 : z_blk 229 0 = [(2, 0, 0, 0, 0), (5, 0, 0, 0, 1), (18, 7, 0, 48, 2), (2, 0, 0, 0, 5), (2, 0, 0, 0, 6), (0, 1, 0, 0, 7), (64, 207, 2, 259, 8), (48, 22, 14, 0, 11)] := rfl
theorem zk_M_link_14 : z_blk 229 14 = [(2, 0, 0, 0, 14), (0, 2, 0, 0, 15), (64, 207, 2, 259, 16), (49, 26, 22, 0, 19)] := rfl
theorem zk_M_link_22 : z_blk 229 22 = [(5, 1, 0, 0, 22), (54, 27, 0, 0, 23)] := rfl
theorem zk_M_link_26 : z_blk 229 26 = [(5, 0, 0, 0, 26), (55, 27, 0, 0, 27)] := rfl
theorem zk_M_link_27 : z_blk 229 27 = [(5, 1, 0, 0, 27), (5, 0, 0, 0, 28), (64, 163, 4, 148, 29), (49, 54, 35, 0, 32)] := rfl
theorem zk_M_link_35 : z_blk 229 35 = [(2, 0, 0, 0, 35), (0, 1, 0, 0, 36), (0, 2, 0, 0, 37), (43, 45, 41, 0, 38)] := rfl
theorem zk_M_link_41 : z_blk 229 41 = [(5, 1, 0, 0, 41), (54, 46, 0, 0, 42)] := rfl
theorem zk_M_link_45 : z_blk 229 45 = [(5, 0, 0, 0, 45), (55, 46, 0, 0, 46)] := rfl
theorem zk_M_link_46 : z_blk 229 46 = [(5, 2, 0, 0, 46), (5, 1, 0, 0, 47), (64, 163, 4, 148, 48), (48, 56, 54, 0, 51)] := rfl
theorem zk_M_link_54 : z_blk 229 54 = [(5, 0, 0, 0, 54), (72, 0, 0, 0, 55)] := rfl
theorem zk_M_link_56 : z_blk 229 56 = [(2, 0, 0, 0, 56), (0, 1, 0, 0, 57), (0, 2, 0, 0, 58), (64, 185, 3, 208, 59), (72, 0, 0, 0, 62)] := rfl
theorem ze_M_link (w0 w1 w2 : Value) (G : zG) (M : zM) : z_call 229 [w0, w1, w2] G M = z_ex 229 (z_blk 229 0) [w0, w1, w2] [] G M := rfl
theorem zr_M_link : z_rc 229 = 7 := rfl
theorem zk_M_letter_0 : z_blk 230 0 = [(2, 0, 0, 0, 0), (5, 0, 0, 0, 1), (18, 7, 0, 48, 2), (2, 0, 0, 0, 5), (0, 1, 0, 0, 6), (5, 0, 0, 0, 7), (2, 0, 0, 0, 8), (17, 7, 9, 20, 9), (6, 8, 0, 0, 12), (32, 0, 0, 0, 14), (5, 1, 0, 0, 15), (21, 0, 0, 0, 16), (63, 162, 3, 94, 17), (49, 27, 23, 0, 20)] := rfl
theorem zk_M_letter_23 : z_blk 230 23 = [(5, 1, 0, 0, 23), (54, 28, 0, 0, 24)] := rfl
theorem zk_M_letter_27 : z_blk 230 27 = [(5, 0, 0, 0, 27), (55, 28, 0, 0, 28)] := rfl
theorem zk_M_letter_28 : z_blk 230 28 = [(5, 1, 0, 0, 28), (5, 0, 0, 0, 29), (64, 163, 4, 148, 30), (49, 60, 36, 0, 33)] := rfl
theorem zk_M_letter_36 : z_blk 230 36 = [(2, 0, 0, 0, 36), (0, 2, 0, 0, 37), (5, 0, 0, 0, 38), (6, 6, 0, 0, 39), (63, 162, 3, 94, 41), (49, 51, 47, 0, 44)] := rfl
theorem zk_M_letter_47 : z_blk 230 47 = [(5, 1, 0, 0, 47), (54, 52, 0, 0, 48)] := rfl
theorem zk_M_letter_51 : z_blk 230 51 = [(5, 0, 0, 0, 51), (55, 52, 0, 0, 52)] := rfl
theorem zk_M_letter_52 : z_blk 230 52 = [(5, 2, 0, 0, 52), (5, 1, 0, 0, 53), (64, 163, 4, 148, 54), (48, 62, 60, 0, 57)] := rfl
theorem zk_M_letter_60 : z_blk 230 60 = [(5, 0, 0, 0, 60), (70, 0, 0, 0, 61)] := rfl
theorem zk_M_letter_62 : z_blk 230 62 = [(7, 265, 0, 0, 62), (6, 13, 0, 0, 65), (0, 1, 0, 0, 67), (22, 0, 0, 0, 68), (20, 0, 0, 0, 69), (10, 3, 0, 0, 70), (0, 2, 0, 0, 71), (5, 3, 0, 0, 72), (43, 95, 76, 0, 73)] := rfl
theorem zk_M_letter_76 : z_blk 230 76 = [(2, 0, 0, 0, 76), (17, 7, 9, 20, 77), (0, 3, 0, 0, 80), (5, 3, 0, 0, 81), (20, 0, 0, 0, 82), (32, 0, 0, 0, 83), (2, 0, 0, 0, 84), (17, 7, 9, 20, 85), (6, 6, 0, 0, 88), (32, 0, 0, 0, 90), (21, 0, 0, 0, 91), (54, 103, 0, 0, 92)] := rfl
theorem zk_M_letter_95 : z_blk 230 95 = [(2, 0, 0, 0, 95), (17, 7, 9, 20, 96), (0, 3, 0, 0, 99), (0, 2, 0, 0, 100), (20, 0, 0, 0, 101), (32, 0, 0, 0, 102), (55, 103, 0, 0, 103)] := rfl
theorem zk_M_letter_103 : z_blk 230 103 = [(70, 0, 0, 0, 103)] := rfl
theorem ze_M_letter (w0 w1 w2 : Value) (G : zG) (M : zM) : z_call 230 [w0, w1, w2] G M = z_ex 230 (z_blk 230 0) [w0, w1, w2, .null] [] G M := rfl
theorem zr_M_letter : z_rc 230 = 7 := rfl
theorem zk_M_sent_0 : z_blk 231 0 = [(2, 0, 0, 0, 0), (5, 0, 0, 0, 1), (18, 7, 0, 48, 2), (2, 0, 0, 0, 5), (0, 1, 0, 0, 6), (5, 0, 0, 0, 7), (6, 7, 0, 0, 8), (63, 162, 3, 94, 10), (48, 25, 16, 0, 13)] := rfl
theorem zk_M_sent_16 : z_blk 231 16 = [(0, 2, 0, 0, 16), (5, 0, 0, 0, 17), (5, 1, 0, 0, 18), (63, 162, 3, 94, 19), (49, 29, 25, 0, 22)] := rfl
theorem zk_M_sent_25 : z_blk 231 25 = [(5, 1, 0, 0, 25), (54, 30, 0, 0, 26)] := rfl
theorem zk_M_sent_29 : z_blk 231 29 = [(5, 0, 0, 0, 29), (55, 30, 0, 0, 30)] := rfl
theorem zk_M_sent_30 : z_blk 231 30 = [(5, 1, 0, 0, 30), (5, 1, 0, 0, 31), (64, 163, 4, 148, 32), (48, 40, 38, 0, 35)] := rfl
theorem zk_M_sent_38 : z_blk 231 38 = [(5, 0, 0, 0, 38), (70, 0, 0, 0, 39)] := rfl
theorem zk_M_sent_40 : z_blk 231 40 = [(2, 0, 0, 0, 40), (17, 7, 9, 20, 41), (0, 2, 0, 0, 44), (49, 53, 48, 0, 45)] := rfl
theorem zk_M_sent_48 : z_blk 231 48 = [(6, 9, 0, 0, 48), (54, 55, 0, 0, 50)] := rfl
theorem zk_M_sent_53 : z_blk 231 53 = [(6, 17, 0, 0, 53), (55, 55, 0, 0, 55)] := rfl
theorem zk_M_sent_55 : z_blk 231 55 = [(0, 1, 0, 0, 55), (20, 0, 0, 0, 56), (32, 0, 0, 0, 57), (70, 0, 0, 0, 58)] := rfl
theorem ze_M_sent (w0 w1 w2 : Value) (G : zG) (M : zM) : z_call 231 [w0, w1, w2] G M = z_ex 231 (z_blk 231 0) [w0, w1, w2] [] G M := rfl
theorem zr_M_sent : z_rc 231 = 7 := rfl
theorem zk_M_tally_0 : z_blk 232 0 = [(2, 0, 0, 0, 0), (5, 0, 0, 0, 1), (18, 7, 0, 48, 2), (2, 0, 0, 0, 5), (2, 0, 0, 0, 6), (0, 1, 0, 0, 7), (64, 207, 2, 259, 8), (49, 18, 14, 0, 11)] := rfl
theorem zk_M_tally_14 : z_blk 232 14 = [(5, 1, 0, 0, 14), (54, 19, 0, 0, 15)] := rfl
theorem zk_M_tally_18 : z_blk 232 18 = [(5, 0, 0, 0, 18), (55, 19, 0, 0, 19)] := rfl
theorem zk_M_tally_19 : z_blk 232 19 = [(5, 1, 0, 0, 19), (5, 0, 0, 0, 20), (64, 163, 4, 148, 21), (49, 51, 27, 0, 24)] := rfl
theorem zk_M_tally_27 : z_blk 232 27 = [(2, 0, 0, 0, 27), (0, 2, 0, 0, 28), (5, 0, 0, 0, 29), (6, 6, 0, 0, 30), (63, 162, 3, 94, 32), (49, 42, 38, 0, 35)] := rfl
theorem zk_M_tally_38 : z_blk 232 38 = [(5, 1, 0, 0, 38), (54, 43, 0, 0, 39)] := rfl
theorem zk_M_tally_42 : z_blk 232 42 = [(5, 0, 0, 0, 42), (55, 43, 0, 0, 43)] := rfl
theorem zk_M_tally_43 : z_blk 232 43 = [(5, 2, 0, 0, 43), (5, 1, 0, 0, 44), (64, 163, 4, 148, 45), (48, 53, 51, 0, 48)] := rfl
theorem zk_M_tally_51 : z_blk 232 51 = [(5, 0, 0, 0, 51), (70, 0, 0, 0, 52)] := rfl
theorem zk_M_tally_53 : z_blk 232 53 = [(2, 0, 0, 0, 53), (17, 7, 9, 20, 54), (0, 1, 0, 0, 57), (6, 21, 0, 0, 58), (0, 2, 0, 0, 60), (20, 0, 0, 0, 61), (63, 155, 2, 167, 62), (32, 0, 0, 0, 65), (70, 0, 0, 0, 66)] := rfl
theorem ze_M_tally (w0 w1 w2 : Value) (G : zG) (M : zM) : z_call 232 [w0, w1, w2] G M = z_ex 232 (z_blk 232 0) [w0, w1, w2] [] G M := rfl
theorem zr_M_tally : z_rc 232 = 7 := rfl
theorem zk_M_change_0 : z_blk 233 0 = [(2, 0, 0, 0, 0), (5, 0, 0, 0, 1), (18, 7, 0, 48, 2), (2, 0, 0, 0, 5), (0, 1, 0, 0, 6), (5, 0, 0, 0, 7), (2, 0, 0, 0, 8), (17, 7, 9, 20, 9), (7, 4165, 0, 0, 12), (32, 0, 0, 0, 15), (5, 1, 0, 0, 16), (21, 0, 0, 0, 17), (63, 162, 3, 94, 18), (49, 28, 24, 0, 21)] := rfl
theorem zk_M_change_24 : z_blk 233 24 = [(5, 1, 0, 0, 24), (54, 29, 0, 0, 25)] := rfl
theorem zk_M_change_28 : z_blk 233 28 = [(5, 0, 0, 0, 28), (55, 29, 0, 0, 29)] := rfl
theorem zk_M_change_29 : z_blk 233 29 = [(5, 1, 0, 0, 29), (5, 0, 0, 0, 30), (64, 163, 4, 148, 31), (49, 60, 37, 0, 34)] := rfl
theorem zk_M_change_37 : z_blk 233 37 = [(2, 0, 0, 0, 37), (0, 2, 0, 0, 38), (5, 0, 0, 0, 39), (5, 3, 0, 0, 40), (63, 162, 3, 94, 41), (49, 51, 47, 0, 44)] := rfl
theorem zk_M_change_47 : z_blk 233 47 = [(5, 1, 0, 0, 47), (54, 52, 0, 0, 48)] := rfl
theorem zk_M_change_51 : z_blk 233 51 = [(5, 0, 0, 0, 51), (55, 52, 0, 0, 52)] := rfl
theorem zk_M_change_52 : z_blk 233 52 = [(5, 2, 0, 0, 52), (5, 1, 0, 0, 53), (64, 163, 4, 148, 54), (48, 62, 60, 0, 57)] := rfl
theorem zk_M_change_60 : z_blk 233 60 = [(5, 0, 0, 0, 60), (70, 0, 0, 0, 61)] := rfl
theorem zk_M_change_62 : z_blk 233 62 = [(2, 0, 0, 0, 62), (17, 7, 9, 20, 63), (7, 4166, 0, 0, 66), (5, 4, 0, 0, 69), (0, 1, 0, 0, 70), (22, 0, 0, 0, 71), (20, 0, 0, 0, 72), (0, 2, 0, 0, 73), (20, 0, 0, 0, 74), (32, 0, 0, 0, 75), (70, 0, 0, 0, 76)] := rfl
theorem ze_M_change (w0 w1 w2 : Value) (G : zG) (M : zM) : z_call 233 [w0, w1, w2] G M = z_ex 233 (z_blk 233 0) [w0, w1, w2] [] G M := rfl
theorem zr_M_change : z_rc 233 = 7 := rfl
theorem zk_M_chiefs_0 : z_blk 234 0 = [(2, 0, 0, 0, 0), (5, 0, 0, 0, 1), (18, 7, 0, 48, 2), (5, 0, 0, 0, 5), (10, 1, 0, 0, 6), (5, 0, 0, 0, 7), (10, 2, 0, 0, 8), (55, 9, 0, 0, 9)] := rfl
theorem zk_M_chiefs_9 : z_blk 234 9 = [(0, 2, 0, 0, 9), (2, 0, 0, 0, 10), (17, 7, 9, 20, 11), (5, 0, 0, 0, 14), (32, 0, 0, 0, 15), (45, 51, 19, 0, 16)] := rfl
theorem zk_M_chiefs_19 : z_blk 234 19 = [(0, 1, 0, 0, 19), (2, 0, 0, 0, 20), (0, 2, 0, 0, 21), (64, 188, 2, 190, 22), (48, 42, 28, 0, 25)] := rfl
theorem zk_M_chiefs_28 : z_blk 234 28 = [(2, 0, 0, 0, 28), (0, 2, 0, 0, 29), (64, 189, 2, 193, 30), (48, 42, 36, 0, 33)] := rfl
theorem zk_M_chiefs_36 : z_blk 234 36 = [(5, 1, 0, 0, 36), (0, 2, 0, 0, 37), (26, 0, 0, 0, 38), (54, 43, 0, 0, 39)] := rfl
theorem zk_M_chiefs_42 : z_blk 234 42 = [(5, 0, 0, 0, 42), (55, 43, 0, 0, 43)] := rfl
theorem zk_M_chiefs_43 : z_blk 234 43 = [(24, 0, 0, 0, 43), (10, 1, 0, 0, 44), (15, 2, 1, 0, 45), (54, 9, 0, 0, 48)] := rfl
theorem zk_M_chiefs_51 : z_blk 234 51 = [(0, 1, 0, 0, 51), (70, 0, 0, 0, 52)] := rfl
theorem ze_M_chiefs (w0 : Value) (G : zG) (M : zM) : z_call 234 [w0] G M = z_ex 234 (z_blk 234 0) [w0, .null, .null] [] G M := rfl
theorem zr_M_chiefs : z_rc 234 = 7 := rfl
theorem zk_M_ranked_0 : z_blk 235 0 = [(2, 0, 0, 0, 0), (5, 0, 0, 0, 1), (18, 7, 0, 48, 2), (2, 0, 0, 0, 5), (2, 0, 0, 0, 6), (0, 1, 0, 0, 7), (64, 207, 2, 259, 8), (49, 18, 14, 0, 11)] := rfl
theorem zk_M_ranked_14 : z_blk 235 14 = [(5, 1, 0, 0, 14), (54, 19, 0, 0, 15)] := rfl
theorem zk_M_ranked_18 : z_blk 235 18 = [(5, 0, 0, 0, 18), (55, 19, 0, 0, 19)] := rfl
theorem zk_M_ranked_19 : z_blk 235 19 = [(5, 1, 0, 0, 19), (5, 0, 0, 0, 20), (64, 163, 4, 148, 21), (48, 29, 27, 0, 24)] := rfl
theorem zk_M_ranked_27 : z_blk 235 27 = [(5, 0, 0, 0, 27), (70, 0, 0, 0, 28)] := rfl
theorem zk_M_ranked_29 : z_blk 235 29 = [(2, 0, 0, 0, 29), (0, 1, 0, 0, 30), (64, 214, 2, 268, 31), (10, 3, 0, 0, 34), (5, 0, 0, 0, 35), (11, 4, 0, 0, 36), (55, 38, 0, 0, 38)] := rfl
theorem zk_M_ranked_38 : z_blk 235 38 = [(1, 4, 0, 0, 38), (2, 0, 0, 0, 40), (17, 7, 9, 20, 41), (5, 0, 0, 0, 44), (32, 0, 0, 0, 45), (45, 78, 49, 0, 46)] := rfl
theorem zk_M_ranked_49 : z_blk 235 49 = [(0, 3, 0, 0, 49), (1, 4, 0, 0, 50), (63, 175, 2, 132, 52), (48, 72, 58, 0, 55)] := rfl
theorem zk_M_ranked_58 : z_blk 235 58 = [(2, 0, 0, 0, 58), (1, 4, 0, 0, 59), (0, 3, 0, 0, 61), (64, 196, 3, 220, 62), (0, 2, 0, 0, 65), (43, 72, 69, 0, 66)] := rfl
theorem zk_M_ranked_69 : z_blk 235 69 = [(1, 4, 0, 0, 69), (70, 0, 0, 0, 71)] := rfl
theorem zk_M_ranked_72 : z_blk 235 72 = [(15, 4, 1, 0, 72), (54, 38, 0, 0, 75)] := rfl
theorem zk_M_ranked_78 : z_blk 235 78 = [(5, 4294967295, 0, 0, 78), (70, 0, 0, 0, 79)] := rfl
theorem ze_M_ranked (w0 w1 w2 : Value) (G : zG) (M : zM) : z_call 235 [w0, w1, w2] G M = z_ex 235 (z_blk 235 0) [w0, w1, w2, .null, .null] [] G M := rfl
theorem zr_M_ranked : z_rc 235 = 7 := rfl
theorem zk_M_until_0 : z_blk 236 0 = [(2, 0, 0, 0, 0), (5, 0, 0, 0, 1), (18, 7, 0, 48, 2), (2, 0, 0, 0, 5), (17, 7, 9, 20, 6), (2, 0, 0, 0, 9), (17, 7, 11, 26, 10), (63, 152, 2, 160, 13), (2, 0, 0, 0, 16), (64, 237, 1, 308, 17), (10, 1, 0, 0, 20), (2, 0, 0, 0, 21), (17, 7, 11, 26, 22), (2, 0, 0, 0, 25), (17, 7, 9, 20, 26), (63, 152, 2, 160, 29), (0, 1, 0, 0, 32), (70, 0, 0, 0, 33)] := rfl
theorem ze_M_until (w0 : Value) (G : zG) (M : zM) : z_call 236 [w0] G M = z_ex 236 (z_blk 236 0) [w0, .null] [] G M := rfl
theorem zr_M_until : z_rc 236 = 7 := rfl
theorem zk_M_untilNow_0 : z_blk 237 0 = [(5, 0, 0, 0, 0), (10, 1, 0, 0, 1), (55, 2, 0, 0, 2)] := rfl
theorem zk_M_untilNow_2 : z_blk 237 2 = [(0, 1, 0, 0, 2), (7, 300, 0, 0, 3), (46, 35, 9, 0, 6)] := rfl
theorem zk_M_untilNow_9 : z_blk 237 9 = [(2, 0, 0, 0, 9), (64, 218, 1, 289, 10), (48, 18, 16, 0, 13)] := rfl
theorem zk_M_untilNow_16 : z_blk 237 16 = [(0, 1, 0, 0, 16), (70, 0, 0, 0, 17)] := rfl
theorem zk_M_untilNow_18 : z_blk 237 18 = [(0, 1, 0, 0, 18), (7, 300, 0, 0, 19), (45, 29, 25, 0, 22)] := rfl
theorem zk_M_untilNow_25 : z_blk 237 25 = [(2, 0, 0, 0, 25), (64, 182, 1, 241, 26), (55, 29, 0, 0, 29)] := rfl
theorem zk_M_untilNow_29 : z_blk 237 29 = [(15, 1, 1, 0, 29), (54, 2, 0, 0, 32)] := rfl
theorem zk_M_untilNow_35 : z_blk 237 35 = [(5, 4294967295, 0, 0, 35), (70, 0, 0, 0, 36)] := rfl
theorem ze_M_untilNow (w0 : Value) (G : zG) (M : zM) : z_call 237 [w0] G M = z_ex 237 (z_blk 237 0) [w0, .null] [] G M := rfl
theorem zr_M_untilNow : z_rc 237 = 7 := rfl
theorem zk_M_untilBy_0 : z_blk 238 0 = [(2, 0, 0, 0, 0), (5, 0, 0, 0, 1), (18, 7, 0, 48, 2), (2, 0, 0, 0, 5), (2, 0, 0, 0, 6), (0, 1, 0, 0, 7), (64, 207, 2, 259, 8), (49, 18, 14, 0, 11)] := rfl
theorem zk_M_untilBy_14 : z_blk 238 14 = [(5, 1, 0, 0, 14), (54, 19, 0, 0, 15)] := rfl
theorem zk_M_untilBy_18 : z_blk 238 18 = [(5, 0, 0, 0, 18), (55, 19, 0, 0, 19)] := rfl
theorem zk_M_untilBy_19 : z_blk 238 19 = [(5, 1, 0, 0, 19), (5, 0, 0, 0, 20), (64, 163, 4, 148, 21), (48, 29, 27, 0, 24)] := rfl
theorem zk_M_untilBy_27 : z_blk 238 27 = [(5, 0, 0, 0, 27), (70, 0, 0, 0, 28)] := rfl
theorem zk_M_untilBy_29 : z_blk 238 29 = [(2, 0, 0, 0, 29), (0, 1, 0, 0, 30), (64, 239, 2, 311, 31), (70, 0, 0, 0, 34)] := rfl
theorem ze_M_untilBy (w0 w1 : Value) (G : zG) (M : zM) : z_call 238 [w0, w1] G M = z_ex 238 (z_blk 238 0) [w0, w1] [] G M := rfl
theorem zr_M_untilBy : z_rc 238 = 7 := rfl
theorem zk_M_untilFall_0 : z_blk 239 0 = [(2, 0, 0, 0, 0), (17, 7, 9, 20, 1), (2, 0, 0, 0, 4), (17, 7, 11, 26, 5), (63, 152, 2, 160, 8), (2, 0, 0, 0, 11), (0, 1, 0, 0, 12), (64, 186, 2, 211, 13), (48, 27, 19, 0, 16)] := rfl
theorem zk_M_untilFall_19 : z_blk 239 19 = [(2, 0, 0, 0, 19), (0, 1, 0, 0, 20), (64, 153, 2, 164, 21), (54, 33, 0, 0, 24)] := rfl
theorem zk_M_untilFall_27 : z_blk 239 27 = [(2, 0, 0, 0, 27), (0, 1, 0, 0, 28), (64, 208, 2, 262, 29), (41, 0, 0, 0, 32), (55, 33, 0, 0, 33)] := rfl
theorem zk_M_untilFall_33 : z_blk 239 33 = [(2, 0, 0, 0, 33), (64, 237, 1, 308, 34), (10, 2, 0, 0, 37), (2, 0, 0, 0, 38), (17, 7, 11, 26, 39), (2, 0, 0, 0, 42), (17, 7, 9, 20, 43), (63, 152, 2, 160, 46), (0, 2, 0, 0, 49), (70, 0, 0, 0, 50)] := rfl
theorem ze_M_untilFall (w0 w1 : Value) (G : zG) (M : zM) : z_call 239 [w0, w1] G M = z_ex 239 (z_blk 239 0) [w0, w1, .null] [] G M := rfl
theorem zr_M_untilFall : z_rc 239 = 7 := rfl
theorem zk_M_hardest_0 : z_blk 240 0 = [(2, 0, 0, 0, 0), (5, 0, 0, 0, 1), (18, 7, 0, 48, 2), (2, 0, 0, 0, 5), (0, 1, 0, 0, 6), (5, 0, 0, 0, 7), (5, 1, 0, 0, 8), (63, 162, 3, 94, 9), (49, 19, 15, 0, 12)] := rfl
theorem zk_M_hardest_15 : z_blk 240 15 = [(5, 1, 0, 0, 15), (54, 20, 0, 0, 16)] := rfl
theorem zk_M_hardest_19 : z_blk 240 19 = [(5, 0, 0, 0, 19), (55, 20, 0, 0, 20)] := rfl
theorem zk_M_hardest_20 : z_blk 240 20 = [(5, 1, 0, 0, 20), (5, 1, 0, 0, 21), (64, 163, 4, 148, 22), (48, 30, 28, 0, 25)] := rfl
theorem zk_M_hardest_28 : z_blk 240 28 = [(5, 0, 0, 0, 28), (70, 0, 0, 0, 29)] := rfl
theorem zk_M_hardest_30 : z_blk 240 30 = [(5, 4294967295, 0, 0, 30), (10, 2, 0, 0, 31), (5, 4294967295, 0, 0, 32), (10, 3, 0, 0, 33), (5, 0, 0, 0, 34), (11, 4, 0, 0, 35), (55, 37, 0, 0, 37)] := rfl
theorem zk_M_hardest_37 : z_blk 240 37 = [(1, 4, 0, 0, 37), (2, 0, 0, 0, 39), (17, 7, 9, 20, 40), (5, 0, 0, 0, 43), (32, 0, 0, 0, 44), (45, 110, 48, 0, 45)] := rfl
theorem zk_M_hardest_48 : z_blk 240 48 = [(2, 0, 0, 0, 48), (1, 4, 0, 0, 49), (64, 186, 2, 211, 51), (48, 60, 57, 0, 54)] := rfl
theorem zk_M_hardest_57 : z_blk 240 57 = [(54, 104, 0, 0, 57)] := rfl
theorem zk_M_hardest_60 : z_blk 240 60 = [(2, 0, 0, 0, 60), (1, 4, 0, 0, 61), (64, 239, 2, 311, 63), (11, 5, 0, 0, 66), (1, 5, 0, 0, 68), (5, 4294967295, 0, 0, 70), (43, 80, 74, 0, 71)] := rfl
theorem zk_M_hardest_74 : z_blk 240 74 = [(7, 301, 0, 0, 74), (54, 82, 0, 0, 77)] := rfl
theorem zk_M_hardest_80 : z_blk 240 80 = [(1, 5, 0, 0, 80), (55, 82, 0, 0, 82)] := rfl
theorem zk_M_hardest_82 : z_blk 240 82 = [(11, 6, 0, 0, 82), (0, 2, 0, 0, 84), (5, 4294967295, 0, 0, 85), (42, 98, 89, 0, 86)] := rfl
theorem zk_M_hardest_89 : z_blk 240 89 = [(1, 6, 0, 0, 89), (0, 3, 0, 0, 91), (46, 98, 95, 0, 92)] := rfl
theorem zk_M_hardest_95 : z_blk 240 95 = [(54, 104, 0, 0, 95)] := rfl
theorem zk_M_hardest_98 : z_blk 240 98 = [(1, 4, 0, 0, 98), (10, 2, 0, 0, 100), (1, 6, 0, 0, 101), (10, 3, 0, 0, 103), (55, 104, 0, 0, 104)] := rfl
theorem zk_M_hardest_104 : z_blk 240 104 = [(15, 4, 1, 0, 104), (54, 37, 0, 0, 107)] := rfl
theorem zk_M_hardest_110 : z_blk 240 110 = [(0, 1, 0, 0, 110), (49, 118, 114, 0, 111)] := rfl
theorem zk_M_hardest_114 : z_blk 240 114 = [(0, 2, 0, 0, 114), (54, 130, 0, 0, 115)] := rfl
theorem zk_M_hardest_118 : z_blk 240 118 = [(0, 3, 0, 0, 118), (7, 300, 0, 0, 119), (47, 129, 125, 0, 122)] := rfl
theorem zk_M_hardest_125 : z_blk 240 125 = [(5, 4294967295, 0, 0, 125), (54, 130, 0, 0, 126)] := rfl
theorem zk_M_hardest_129 : z_blk 240 129 = [(0, 3, 0, 0, 129), (55, 130, 0, 0, 130)] := rfl
theorem zk_M_hardest_130 : z_blk 240 130 = [(70, 0, 0, 0, 130)] := rfl
theorem ze_M_hardest (w0 w1 : Value) (G : zG) (M : zM) : z_call 240 [w0, w1] G M = z_ex 240 (z_blk 240 0) [w0, w1, .null, .null, .null, .null, .null] [] G M := rfl
theorem zr_M_hardest : z_rc 240 = 7 := rfl
theorem zk_M_untilRule_0 : z_blk 241 0 = [(2, 0, 0, 0, 0), (5, 0, 0, 0, 1), (18, 7, 0, 48, 2), (2, 0, 0, 0, 5), (0, 1, 0, 0, 6), (0, 2, 0, 0, 7), (63, 211, 2, 265, 8), (49, 18, 14, 0, 11)] := rfl
theorem zk_M_untilRule_14 : z_blk 241 14 = [(5, 1, 0, 0, 14), (54, 19, 0, 0, 15)] := rfl
theorem zk_M_untilRule_18 : z_blk 241 18 = [(5, 0, 0, 0, 18), (55, 19, 0, 0, 19)] := rfl
theorem zk_M_untilRule_19 : z_blk 241 19 = [(5, 1, 0, 0, 19), (5, 1, 0, 0, 20), (64, 163, 4, 148, 21), (48, 29, 27, 0, 24)] := rfl
theorem zk_M_untilRule_27 : z_blk 241 27 = [(5, 0, 0, 0, 27), (70, 0, 0, 0, 28)] := rfl
theorem zk_M_untilRule_29 : z_blk 241 29 = [(2, 0, 0, 0, 29), (17, 7, 9, 20, 30), (2, 0, 0, 0, 33), (17, 7, 11, 26, 34), (63, 152, 2, 160, 37), (2, 0, 0, 0, 40), (17, 7, 9, 20, 41), (5, 2, 0, 0, 44), (0, 1, 0, 0, 45), (20, 0, 0, 0, 46), (0, 2, 0, 0, 47), (33, 0, 0, 0, 48), (2, 0, 0, 0, 49), (64, 237, 1, 308, 50), (10, 3, 0, 0, 53), (2, 0, 0, 0, 54), (17, 7, 11, 26, 55), (2, 0, 0, 0, 58), (17, 7, 9, 20, 59), (63, 152, 2, 160, 62), (0, 3, 0, 0, 65), (70, 0, 0, 0, 66)] := rfl
theorem ze_M_untilRule (w0 w1 w2 : Value) (G : zG) (M : zM) : z_call 241 [w0, w1, w2] G M = z_ex 241 (z_blk 241 0) [w0, w1, w2, .null] [] G M := rfl
theorem zr_M_untilRule : z_rc 241 = 7 := rfl
theorem zk_M_untilLinks_0 : z_blk 242 0 = [(2, 0, 0, 0, 0), (5, 0, 0, 0, 1), (18, 7, 0, 48, 2), (2, 0, 0, 0, 5), (0, 1, 0, 0, 6), (5, 0, 0, 0, 7), (5, 1, 0, 0, 8), (63, 162, 3, 94, 9), (48, 28, 15, 0, 12)] := rfl
theorem zk_M_untilLinks_15 : z_blk 242 15 = [(0, 1, 0, 0, 15), (5, 1, 0, 0, 16), (43, 32, 20, 0, 17)] := rfl
theorem zk_M_untilLinks_20 : z_blk 242 20 = [(2, 0, 0, 0, 20), (0, 2, 0, 0, 21), (64, 202, 2, 250, 22), (49, 32, 28, 0, 25)] := rfl
theorem zk_M_untilLinks_28 : z_blk 242 28 = [(5, 1, 0, 0, 28), (54, 33, 0, 0, 29)] := rfl
theorem zk_M_untilLinks_32 : z_blk 242 32 = [(5, 0, 0, 0, 32), (55, 33, 0, 0, 33)] := rfl
theorem zk_M_untilLinks_33 : z_blk 242 33 = [(5, 1, 0, 0, 33), (5, 1, 0, 0, 34), (64, 163, 4, 148, 35), (48, 43, 41, 0, 38)] := rfl
theorem zk_M_untilLinks_41 : z_blk 242 41 = [(5, 0, 0, 0, 41), (70, 0, 0, 0, 42)] := rfl
theorem zk_M_untilLinks_43 : z_blk 242 43 = [(2, 0, 0, 0, 43), (17, 7, 9, 20, 44), (2, 0, 0, 0, 47), (17, 7, 11, 26, 48), (63, 152, 2, 160, 51), (0, 1, 0, 0, 54), (49, 65, 58, 0, 55)] := rfl
theorem zk_M_untilLinks_58 : z_blk 242 58 = [(2, 0, 0, 0, 58), (64, 205, 1, 256, 59), (54, 70, 0, 0, 62)] := rfl
theorem zk_M_untilLinks_65 : z_blk 242 65 = [(2, 0, 0, 0, 65), (0, 2, 0, 0, 66), (64, 203, 2, 253, 67), (55, 70, 0, 0, 70)] := rfl
theorem zk_M_untilLinks_70 : z_blk 242 70 = [(10, 3, 0, 0, 70), (2, 0, 0, 0, 71), (64, 237, 1, 308, 72), (11, 4, 0, 0, 75), (2, 0, 0, 0, 77), (17, 7, 11, 26, 78), (2, 0, 0, 0, 81), (17, 7, 9, 20, 82), (63, 152, 2, 160, 85), (1, 4, 0, 0, 88), (70, 0, 0, 0, 90)] := rfl
theorem ze_M_untilLinks (w0 w1 w2 : Value) (G : zG) (M : zM) : z_call 242 [w0, w1, w2] G M = z_ex 242 (z_blk 242 0) [w0, w1, w2, .null, .null] [] G M := rfl
theorem zr_M_untilLinks : z_rc 242 = 7 := rfl
theorem zk_M_ahead_0 : z_blk 243 0 = [(2, 0, 0, 0, 0), (5, 0, 0, 0, 1), (18, 7, 0, 48, 2), (2, 0, 0, 0, 5), (0, 1, 0, 0, 6), (5, 1, 0, 0, 7), (6, 100, 0, 0, 8), (63, 162, 3, 94, 10), (48, 25, 16, 0, 13)] := rfl
theorem zk_M_ahead_16 : z_blk 243 16 = [(0, 2, 0, 0, 16), (5, 0, 0, 0, 17), (5, 4, 0, 0, 18), (63, 162, 3, 94, 19), (49, 29, 25, 0, 22)] := rfl
theorem zk_M_ahead_25 : z_blk 243 25 = [(5, 1, 0, 0, 25), (54, 30, 0, 0, 26)] := rfl
theorem zk_M_ahead_29 : z_blk 243 29 = [(5, 0, 0, 0, 29), (55, 30, 0, 0, 30)] := rfl
theorem zk_M_ahead_30 : z_blk 243 30 = [(5, 1, 0, 0, 30), (5, 1, 0, 0, 31), (64, 163, 4, 148, 32), (48, 40, 38, 0, 35)] := rfl
theorem zk_M_ahead_38 : z_blk 243 38 = [(5, 0, 0, 0, 38), (70, 0, 0, 0, 39)] := rfl
theorem zk_M_ahead_40 : z_blk 243 40 = [(2, 0, 0, 0, 40), (17, 7, 9, 20, 41), (2, 0, 0, 0, 44), (17, 7, 11, 26, 45), (63, 152, 2, 160, 48), (2, 0, 0, 0, 51), (0, 1, 0, 0, 52), (64, 181, 2, 247, 53), (10, 3, 0, 0, 56), (0, 2, 0, 0, 57), (49, 68, 61, 0, 58)] := rfl
theorem zk_M_ahead_61 : z_blk 243 61 = [(2, 0, 0, 0, 61), (64, 213, 1, 283, 62), (54, 108, 0, 0, 65)] := rfl
theorem zk_M_ahead_68 : z_blk 243 68 = [(0, 2, 0, 0, 68), (5, 1, 0, 0, 69), (43, 80, 73, 0, 70)] := rfl
theorem zk_M_ahead_73 : z_blk 243 73 = [(2, 0, 0, 0, 73), (64, 220, 1, 295, 74), (54, 108, 0, 0, 77)] := rfl
theorem zk_M_ahead_80 : z_blk 243 80 = [(0, 2, 0, 0, 80), (5, 2, 0, 0, 81), (43, 95, 85, 0, 82)] := rfl
theorem zk_M_ahead_85 : z_blk 243 85 = [(2, 0, 0, 0, 85), (17, 7, 9, 20, 86), (6, 7, 0, 0, 89), (32, 0, 0, 0, 91), (54, 108, 0, 0, 92)] := rfl
theorem zk_M_ahead_95 : z_blk 243 95 = [(0, 2, 0, 0, 95), (5, 3, 0, 0, 96), (43, 104, 100, 0, 97)] := rfl
theorem zk_M_ahead_100 : z_blk 243 100 = [(0, 3, 0, 0, 100), (54, 108, 0, 0, 101)] := rfl
theorem zk_M_ahead_104 : z_blk 243 104 = [(2, 0, 0, 0, 104), (64, 244, 1, 314, 105), (55, 108, 0, 0, 108)] := rfl
theorem zk_M_ahead_108 : z_blk 243 108 = [(11, 4, 0, 0, 108), (2, 0, 0, 0, 110), (17, 7, 11, 26, 111), (2, 0, 0, 0, 114), (17, 7, 9, 20, 115), (63, 152, 2, 160, 118), (1, 4, 0, 0, 121), (70, 0, 0, 0, 123)] := rfl
theorem ze_M_ahead (w0 w1 w2 : Value) (G : zG) (M : zM) : z_call 243 [w0, w1, w2] G M = z_ex 243 (z_blk 243 0) [w0, w1, w2, .null, .null] [] G M := rfl
theorem zr_M_ahead : z_rc 243 = 7 := rfl
theorem zk_M_commonChief_0 : z_blk 244 0 = [(5, 4294967295, 0, 0, 0), (10, 1, 0, 0, 1), (5, 0, 0, 0, 2), (10, 2, 0, 0, 3), (5, 0, 0, 0, 4), (10, 3, 0, 0, 5), (55, 6, 0, 0, 6)] := rfl
theorem zk_M_commonChief_6 : z_blk 244 6 = [(0, 3, 0, 0, 6), (2, 0, 0, 0, 7), (17, 7, 9, 20, 8), (5, 0, 0, 0, 11), (32, 0, 0, 0, 12), (45, 93, 16, 0, 13)] := rfl
theorem zk_M_commonChief_16 : z_blk 244 16 = [(5, 0, 0, 0, 16), (11, 4, 0, 0, 17), (5, 0, 0, 0, 19), (11, 5, 0, 0, 20), (55, 22, 0, 0, 22)] := rfl
theorem zk_M_commonChief_22 : z_blk 244 22 = [(1, 5, 0, 0, 22), (2, 0, 0, 0, 24), (17, 7, 9, 20, 25), (5, 0, 0, 0, 28), (32, 0, 0, 0, 29), (45, 73, 33, 0, 30)] := rfl
theorem zk_M_commonChief_33 : z_blk 244 33 = [(1, 4, 0, 0, 33), (2, 0, 0, 0, 35), (1, 5, 0, 0, 36), (64, 188, 2, 190, 38), (48, 63, 44, 0, 41)] := rfl
theorem zk_M_commonChief_44 : z_blk 244 44 = [(2, 0, 0, 0, 44), (17, 7, 9, 20, 45), (1, 5, 0, 0, 48), (5, 1, 0, 0, 50), (63, 155, 2, 167, 51), (32, 0, 0, 0, 54), (0, 3, 0, 0, 55), (43, 63, 59, 0, 56)] := rfl
theorem zk_M_commonChief_59 : z_blk 244 59 = [(5, 1, 0, 0, 59), (54, 64, 0, 0, 60)] := rfl
theorem zk_M_commonChief_63 : z_blk 244 63 = [(5, 0, 0, 0, 63), (55, 64, 0, 0, 64)] := rfl
theorem zk_M_commonChief_64 : z_blk 244 64 = [(20, 0, 0, 0, 64), (11, 4, 0, 0, 65), (15, 5, 1, 0, 67), (54, 22, 0, 0, 70)] := rfl
theorem zk_M_commonChief_73 : z_blk 244 73 = [(1, 4, 0, 0, 73), (0, 2, 0, 0, 75), (46, 82, 79, 0, 76)] := rfl
theorem zk_M_commonChief_79 : z_blk 244 79 = [(54, 87, 0, 0, 79)] := rfl
theorem zk_M_commonChief_82 : z_blk 244 82 = [(0, 3, 0, 0, 82), (10, 1, 0, 0, 83), (1, 4, 0, 0, 84), (10, 2, 0, 0, 86), (55, 87, 0, 0, 87)] := rfl
theorem zk_M_commonChief_87 : z_blk 244 87 = [(15, 3, 1, 0, 87), (54, 6, 0, 0, 90)] := rfl
theorem zk_M_commonChief_93 : z_blk 244 93 = [(0, 1, 0, 0, 93), (70, 0, 0, 0, 94)] := rfl
theorem ze_M_commonChief (w0 : Value) (G : zG) (M : zM) : z_call 244 [w0] G M = z_ex 244 (z_blk 244 0) [w0, .null, .null, .null, .null, .null] [] G M := rfl
theorem zr_M_commonChief : z_rc 244 = 7 := rfl
theorem zk_M_storms_0 : z_blk 245 0 = [(2, 0, 0, 0, 0), (5, 0, 0, 0, 1), (18, 7, 0, 48, 2), (2, 0, 0, 0, 5), (0, 1, 0, 0, 6), (5, 1, 0, 0, 7), (6, 20, 0, 0, 8), (63, 162, 3, 94, 10), (48, 25, 16, 0, 13)] := rfl
theorem zk_M_storms_16 : z_blk 245 16 = [(0, 3, 0, 0, 16), (5, 0, 0, 0, 17), (5, 2, 0, 0, 18), (63, 162, 3, 94, 19), (49, 29, 25, 0, 22)] := rfl
theorem zk_M_storms_25 : z_blk 245 25 = [(5, 1, 0, 0, 25), (54, 30, 0, 0, 26)] := rfl
theorem zk_M_storms_29 : z_blk 245 29 = [(5, 0, 0, 0, 29), (55, 30, 0, 0, 30)] := rfl
theorem zk_M_storms_30 : z_blk 245 30 = [(5, 1, 0, 0, 30), (5, 1, 0, 0, 31), (64, 163, 4, 148, 32), (48, 40, 38, 0, 35)] := rfl
theorem zk_M_storms_38 : z_blk 245 38 = [(5, 0, 0, 0, 38), (70, 0, 0, 0, 39)] := rfl
theorem zk_M_storms_40 : z_blk 245 40 = [(2, 0, 0, 0, 40), (17, 7, 9, 20, 41), (2, 0, 0, 0, 44), (17, 7, 12, 29, 45), (63, 152, 2, 160, 48), (5, 0, 0, 0, 51), (11, 4, 0, 0, 52), (5, 0, 0, 0, 54), (11, 5, 0, 0, 55), (5, 0, 0, 0, 57), (11, 6, 0, 0, 58), (5, 0, 0, 0, 60), (11, 7, 0, 0, 61), (55, 63, 0, 0, 63)] := rfl
theorem zk_M_storms_63 : z_blk 245 63 = [(1, 7, 0, 0, 63), (0, 1, 0, 0, 65), (45, 124, 69, 0, 66)] := rfl
theorem zk_M_storms_69 : z_blk 245 69 = [(2, 0, 0, 0, 69), (0, 2, 0, 0, 70), (1, 7, 0, 0, 71), (20, 0, 0, 0, 73), (64, 246, 2, 324, 74), (11, 8, 0, 0, 77), (2, 0, 0, 0, 79), (17, 7, 12, 29, 80), (2, 0, 0, 0, 83), (17, 7, 9, 20, 84), (63, 152, 2, 160, 87), (1, 8, 0, 0, 90), (5, 4294967295, 0, 0, 92), (43, 99, 96, 0, 93)] := rfl
theorem zk_M_storms_96 : z_blk 245 96 = [(54, 118, 0, 0, 96)] := rfl
theorem zk_M_storms_99 : z_blk 245 99 = [(15, 4, 1, 0, 99), (1, 5, 0, 0, 102), (1, 8, 0, 0, 104), (63, 194, 2, 187, 106), (11, 5, 0, 0, 109), (1, 6, 0, 0, 111), (1, 8, 0, 0, 113), (20, 0, 0, 0, 115), (11, 6, 0, 0, 116), (55, 118, 0, 0, 118)] := rfl
theorem zk_M_storms_118 : z_blk 245 118 = [(15, 7, 1, 0, 118), (54, 63, 0, 0, 121)] := rfl
theorem zk_M_storms_124 : z_blk 245 124 = [(0, 3, 0, 0, 124), (49, 133, 128, 0, 125)] := rfl
theorem zk_M_storms_128 : z_blk 245 128 = [(1, 4, 0, 0, 128), (54, 145, 0, 0, 130)] := rfl
theorem zk_M_storms_133 : z_blk 245 133 = [(0, 3, 0, 0, 133), (5, 1, 0, 0, 134), (43, 143, 138, 0, 135)] := rfl
theorem zk_M_storms_138 : z_blk 245 138 = [(1, 5, 0, 0, 138), (54, 145, 0, 0, 140)] := rfl
theorem zk_M_storms_143 : z_blk 245 143 = [(1, 6, 0, 0, 143), (55, 145, 0, 0, 145)] := rfl
theorem zk_M_storms_145 : z_blk 245 145 = [(70, 0, 0, 0, 145)] := rfl
theorem ze_M_storms (w0 w1 w2 w3 : Value) (G : zG) (M : zM) : z_call 245 [w0, w1, w2, w3] G M = z_ex 245 (z_blk 245 0) [w0, w1, w2, w3, .null, .null, .null, .null, .null] [] G M := rfl
theorem zr_M_storms : z_rc 245 = 7 := rfl
theorem zk_M_storm_0 : z_blk 246 0 = [(2, 0, 0, 0, 0), (0, 1, 0, 0, 1), (18, 7, 19, 318, 2), (5, 0, 0, 0, 5), (10, 2, 0, 0, 6), (55, 7, 0, 0, 7)] := rfl
theorem zk_M_storm_7 : z_blk 246 7 = [(0, 2, 0, 0, 7), (6, 8, 0, 0, 8), (45, 112, 13, 0, 10)] := rfl
theorem zk_M_storm_13 : z_blk 246 13 = [(2, 0, 0, 0, 13), (5, 4, 0, 0, 14), (64, 247, 2, 321, 15), (10, 3, 0, 0, 18), (0, 3, 0, 0, 19), (49, 63, 23, 0, 20)] := rfl
theorem zk_M_storm_23 : z_blk 246 23 = [(2, 0, 0, 0, 23), (2, 0, 0, 0, 24), (17, 7, 9, 20, 25), (5, 0, 0, 0, 28), (32, 0, 0, 0, 29), (64, 247, 2, 321, 30), (11, 4, 0, 0, 33), (2, 0, 0, 0, 35), (1, 4, 0, 0, 36), (64, 186, 2, 211, 38), (48, 53, 44, 0, 41)] := rfl
theorem zk_M_storm_44 : z_blk 246 44 = [(2, 0, 0, 0, 44), (1, 4, 0, 0, 45), (64, 153, 2, 164, 47), (54, 60, 0, 0, 50)] := rfl
theorem zk_M_storm_53 : z_blk 246 53 = [(2, 0, 0, 0, 53), (1, 4, 0, 0, 54), (64, 208, 2, 262, 56), (41, 0, 0, 0, 59), (55, 60, 0, 0, 60)] := rfl
theorem zk_M_storm_60 : z_blk 246 60 = [(54, 93, 0, 0, 60)] := rfl
theorem zk_M_storm_63 : z_blk 246 63 = [(0, 3, 0, 0, 63), (5, 1, 0, 0, 64), (43, 88, 68, 0, 65)] := rfl
theorem zk_M_storm_68 : z_blk 246 68 = [(2, 0, 0, 0, 68), (2, 0, 0, 0, 69), (5, 1, 0, 0, 70), (2, 0, 0, 0, 71), (17, 7, 9, 20, 72), (5, 0, 0, 0, 75), (32, 0, 0, 0, 76), (26, 0, 0, 0, 77), (64, 247, 2, 321, 78), (64, 203, 2, 253, 81), (41, 0, 0, 0, 84), (54, 93, 0, 0, 85)] := rfl
theorem zk_M_storm_88 : z_blk 246 88 = [(2, 0, 0, 0, 88), (64, 205, 1, 256, 89), (41, 0, 0, 0, 92), (55, 93, 0, 0, 93)] := rfl
theorem zk_M_storm_93 : z_blk 246 93 = [(2, 0, 0, 0, 93), (2, 0, 0, 0, 94), (6, 12, 0, 0, 95), (64, 247, 2, 321, 97), (5, 1, 0, 0, 100), (20, 0, 0, 0, 101), (64, 181, 2, 247, 102), (41, 0, 0, 0, 105), (15, 2, 1, 0, 106), (54, 7, 0, 0, 109)] := rfl
theorem zk_M_storm_112 : z_blk 246 112 = [(2, 0, 0, 0, 112), (64, 205, 1, 256, 113), (41, 0, 0, 0, 116), (5, 0, 0, 0, 117), (10, 2, 0, 0, 118), (55, 119, 0, 0, 119)] := rfl
theorem zk_M_storm_119 : z_blk 246 119 = [(0, 2, 0, 0, 119), (2, 0, 0, 0, 120), (17, 7, 9, 20, 121), (5, 0, 0, 0, 124), (32, 0, 0, 0, 125), (45, 148, 129, 0, 126)] := rfl
theorem zk_M_storm_129 : z_blk 246 129 = [(2, 0, 0, 0, 129), (0, 2, 0, 0, 130), (64, 186, 2, 211, 131), (48, 142, 137, 0, 134)] := rfl
theorem zk_M_storm_137 : z_blk 246 137 = [(2, 0, 0, 0, 137), (0, 2, 0, 0, 138), (64, 153, 2, 164, 139), (55, 142, 0, 0, 142)] := rfl
theorem zk_M_storm_142 : z_blk 246 142 = [(15, 2, 1, 0, 142), (54, 119, 0, 0, 145)] := rfl
theorem zk_M_storm_148 : z_blk 246 148 = [(2, 0, 0, 0, 148), (64, 237, 1, 308, 149), (70, 0, 0, 0, 152)] := rfl
theorem ze_M_storm (w0 w1 : Value) (G : zG) (M : zM) : z_call 246 [w0, w1] G M = z_ex 246 (z_blk 246 0) [w0, w1, .null, .null, .null] [] G M := rfl
theorem zr_M_storm : z_rc 246 = 7 := rfl
theorem zk_M_draw_0 : z_blk 247 0 = [(2, 0, 0, 0, 0), (9, 1103515245, 0, 317, 1), (2, 0, 0, 0, 4), (16, 7, 19, 318, 5), (22, 0, 0, 0, 8), (7, 12345, 0, 0, 9), (20, 0, 0, 0, 12), (18, 7, 19, 318, 13), (2, 0, 0, 0, 16), (16, 7, 19, 318, 17), (6, 16, 0, 0, 20), (28, 0, 0, 0, 22), (0, 1, 0, 0, 23), (30, 0, 0, 0, 24), (70, 0, 0, 0, 25)] := rfl
theorem ze_M_draw (w0 w1 : Value) (G : zG) (M : zM) : z_call 247 [w0, w1] G M = z_ex 247 (z_blk 247 0) [w0, w1] [] G M := rfl
theorem zr_M_draw : z_rc 247 = 7 := rfl
theorem zk_M_print_0 : z_blk 248 0 = [(2, 0, 0, 0, 0), (5, 0, 0, 0, 1), (18, 7, 0, 48, 2), (62, 0, 0, 0, 5), (14, 1, 0, 0, 6), (5, 0, 0, 0, 7), (10, 3, 0, 0, 8), (55, 9, 0, 0, 9)] := rfl
theorem zk_M_print_9 : z_blk 248 9 = [(0, 3, 0, 0, 9), (2, 0, 0, 0, 10), (17, 7, 9, 20, 11), (5, 0, 0, 0, 14), (32, 0, 0, 0, 15), (45, 76, 19, 0, 16)] := rfl
theorem zk_M_print_19 : z_blk 248 19 = [(61, 31, 0, 327, 19), (61, 31, 0, 327, 22), (61, 31, 0, 327, 25), (4, 1, 0, 0, 28), (59, 0, 0, 0, 29), (2, 0, 0, 0, 30), (17, 7, 9, 20, 31), (0, 3, 0, 0, 34), (5, 3, 0, 0, 35), (63, 155, 2, 167, 36), (32, 0, 0, 0, 39), (57, 0, 0, 0, 40), (58, 0, 0, 0, 41), (59, 0, 0, 0, 42), (2, 0, 0, 0, 43), (17, 7, 9, 20, 44), (0, 3, 0, 0, 47), (5, 4, 0, 0, 48), (63, 155, 2, 167, 49), (32, 0, 0, 0, 52), (57, 0, 0, 0, 53), (58, 0, 0, 0, 54), (59, 0, 0, 0, 55), (2, 0, 0, 0, 56), (17, 7, 9, 20, 57), (0, 3, 0, 0, 60), (6, 6, 0, 0, 61), (63, 155, 2, 167, 63), (32, 0, 0, 0, 66), (57, 0, 0, 0, 67), (58, 0, 0, 0, 68), (14, 1, 0, 0, 69), (15, 3, 1, 0, 70), (54, 9, 0, 0, 73)] := rfl
theorem zk_M_print_76 : z_blk 248 76 = [(4, 1, 0, 0, 76), (71, 0, 0, 0, 77)] := rfl
theorem ze_M_print (w0 : Value) (G : zG) (M : zM) : z_call 248 [w0] G M = z_ex 248 (z_blk 248 0) [w0, .null, .null, .null] [] G M := rfl
theorem zr_M_print : z_rc 248 = 7 := rfl
theorem zk_M_status_0 : z_blk 249 0 = [(2, 0, 0, 0, 0), (5, 0, 0, 0, 1), (18, 7, 0, 48, 2), (0, 1, 0, 0, 5), (5, 0, 0, 0, 6), (5, 2, 0, 0, 7), (63, 162, 3, 94, 8), (48, 23, 14, 0, 11)] := rfl
theorem zk_M_status_14 : z_blk 249 14 = [(2, 0, 0, 0, 14), (17, 7, 1, 9, 15), (0, 1, 0, 0, 18), (32, 0, 0, 0, 19), (54, 24, 0, 0, 20)] := rfl
theorem zk_M_status_23 : z_blk 249 23 = [(5, 4294967295, 0, 0, 23), (55, 24, 0, 0, 24)] := rfl
theorem zk_M_status_24 : z_blk 249 24 = [(70, 0, 0, 0, 24)] := rfl
theorem ze_M_status (w0 w1 : Value) (G : zG) (M : zM) : z_call 249 [w0, w1] G M = z_ex 249 (z_blk 249 0) [w0, w1] [] G M := rfl
theorem zr_M_status : z_rc 249 = 7 := rfl
set_option maxRecDepth 20000 in
theorem zk_L_law_0 : z_blk 250 0 = [(73, 6, 0, 8, 0), (39, 0, 0, 0, 3), (65, 0, 1, 85, 4), (12, 1, 0, 0, 7), (73, 7, 0, 86, 8), (39, 0, 0, 0, 11), (65, 149, 1, 88, 12), (12, 2, 0, 0, 15), (5, 1, 0, 0, 16), (75, 0, 0, 0, 17), (12, 3, 0, 0, 19), (5, 0, 0, 0, 20), (11, 4, 0, 0, 21), (55, 23, 0, 0, 23)] := rfl
set_option maxRecDepth 20000 in
theorem zk_L_law_23 : z_blk 250 23 = [(1, 4, 0, 0, 23), (2, 0, 0, 0, 25), (36, 0, 0, 0, 26), (6, 6, 0, 0, 27), (21, 0, 0, 0, 29), (46, 1790, 33, 0, 30)] := rfl
set_option maxRecDepth 20000 in
theorem zk_L_law_33 : z_blk 250 33 = [(2, 0, 0, 0, 33), (1, 4, 0, 0, 34), (32, 0, 0, 0, 36), (6, 31, 0, 0, 37), (23, 0, 0, 0, 39), (56, 11, 0, 136, 40)] := rfl
set_option maxRecDepth 20000 in
theorem zk_L_law_176 : z_blk 250 176 = [(2, 1, 0, 0, 176), (2, 0, 0, 0, 177), (1, 4, 0, 0, 178), (5, 1, 0, 0, 180), (20, 0, 0, 0, 181), (32, 0, 0, 0, 182), (2, 0, 0, 0, 183), (1, 4, 0, 0, 184), (5, 2, 0, 0, 186), (20, 0, 0, 0, 187), (32, 0, 0, 0, 188), (2, 0, 0, 0, 189), (1, 4, 0, 0, 190), (5, 3, 0, 0, 192), (20, 0, 0, 0, 193), (32, 0, 0, 0, 194), (2, 0, 0, 0, 195), (1, 4, 0, 0, 196), (5, 4, 0, 0, 198), (20, 0, 0, 0, 199), (32, 0, 0, 0, 200), (2, 0, 0, 0, 201), (1, 4, 0, 0, 202), (5, 5, 0, 0, 204), (20, 0, 0, 0, 205), (32, 0, 0, 0, 206), (64, 20, 6, 89, 207), (2, 2, 0, 0, 210), (2, 0, 0, 0, 211), (1, 4, 0, 0, 212), (5, 1, 0, 0, 214), (20, 0, 0, 0, 215), (32, 0, 0, 0, 216), (2, 0, 0, 0, 217), (1, 4, 0, 0, 218), (5, 2, 0, 0, 220), (20, 0, 0, 0, 221), (32, 0, 0, 0, 222), (2, 0, 0, 0, 223), (1, 4, 0, 0, 224), (5, 3, 0, 0, 226), (20, 0, 0, 0, 227), (32, 0, 0, 0, 228), (2, 0, 0, 0, 229), (1, 4, 0, 0, 230), (5, 4, 0, 0, 232), (20, 0, 0, 0, 233), (32, 0, 0, 0, 234), (2, 0, 0, 0, 235), (1, 4, 0, 0, 236), (5, 5, 0, 0, 238), (20, 0, 0, 0, 239), (32, 0, 0, 0, 240), (64, 160, 6, 93, 241), (42, 1784, 247, 0, 244)] := rfl
set_option maxRecDepth 20000 in
theorem zk_L_law_247 : z_blk 250 247 = [(5, 0, 0, 0, 247), (72, 0, 0, 0, 248)] := rfl
set_option maxRecDepth 20000 in
theorem zk_L_law_249 : z_blk 250 249 = [(2, 1, 0, 0, 249), (2, 0, 0, 0, 250), (1, 4, 0, 0, 251), (5, 1, 0, 0, 253), (20, 0, 0, 0, 254), (32, 0, 0, 0, 255), (2, 3, 0, 0, 256), (67, 59, 3, 94, 257), (11, 5, 0, 0, 260), (2, 2, 0, 0, 262), (2, 0, 0, 0, 263), (1, 4, 0, 0, 264), (5, 1, 0, 0, 266), (20, 0, 0, 0, 267), (32, 0, 0, 0, 268), (64, 161, 2, 99, 269), (11, 6, 0, 0, 272), (2, 2, 0, 0, 274), (64, 159, 1, 100, 275), (1, 5, 0, 0, 278), (42, 285, 283, 0, 280)] := rfl
set_option maxRecDepth 20000 in
theorem zk_L_law_283 : z_blk 250 283 = [(5, 0, 0, 0, 283), (72, 0, 0, 0, 284)] := rfl
set_option maxRecDepth 20000 in
theorem zk_L_law_285 : z_blk 250 285 = [(1, 5, 0, 0, 285), (49, 302, 290, 0, 287)] := rfl
set_option maxRecDepth 20000 in
theorem zk_L_law_290 : z_blk 250 290 = [(2, 3, 0, 0, 290), (5, 0, 0, 0, 291), (37, 0, 0, 0, 292), (1, 6, 0, 0, 293), (57, 0, 0, 0, 295), (60, 0, 0, 0, 296), (48, 302, 300, 0, 297)] := rfl
set_option maxRecDepth 20000 in
theorem zk_L_law_300 : z_blk 250 300 = [(5, 0, 0, 0, 300), (72, 0, 0, 0, 301)] := rfl
set_option maxRecDepth 20000 in
theorem zk_L_law_302 : z_blk 250 302 = [(54, 1784, 0, 0, 302)] := rfl
set_option maxRecDepth 20000 in
theorem zk_L_law_305 : z_blk 250 305 = [(2, 1, 0, 0, 305), (64, 22, 1, 104, 306), (2, 2, 0, 0, 309), (64, 177, 1, 107, 310), (42, 1784, 316, 0, 313)] := rfl
set_option maxRecDepth 20000 in
theorem zk_L_law_316 : z_blk 250 316 = [(5, 0, 0, 0, 316), (72, 0, 0, 0, 317)] := rfl
set_option maxRecDepth 20000 in
theorem zk_L_law_318 : z_blk 250 318 = [(2, 1, 0, 0, 318), (2, 0, 0, 0, 319), (1, 4, 0, 0, 320), (5, 1, 0, 0, 322), (20, 0, 0, 0, 323), (32, 0, 0, 0, 324), (2, 3, 0, 0, 325), (67, 76, 3, 108, 326), (11, 5, 0, 0, 329), (2, 2, 0, 0, 331), (2, 0, 0, 0, 332), (1, 4, 0, 0, 333), (5, 1, 0, 0, 335), (20, 0, 0, 0, 336), (32, 0, 0, 0, 337), (64, 179, 2, 110, 338), (11, 6, 0, 0, 341), (2, 2, 0, 0, 343), (64, 159, 1, 100, 344), (1, 5, 0, 0, 347), (42, 354, 352, 0, 349)] := rfl
set_option maxRecDepth 20000 in
theorem zk_L_law_352 : z_blk 250 352 = [(5, 0, 0, 0, 352), (72, 0, 0, 0, 353)] := rfl
set_option maxRecDepth 20000 in
theorem zk_L_law_354 : z_blk 250 354 = [(1, 5, 0, 0, 354), (49, 371, 359, 0, 356)] := rfl
set_option maxRecDepth 20000 in
theorem zk_L_law_359 : z_blk 250 359 = [(2, 3, 0, 0, 359), (5, 0, 0, 0, 360), (37, 0, 0, 0, 361), (1, 6, 0, 0, 362), (57, 0, 0, 0, 364), (60, 0, 0, 0, 365), (48, 371, 369, 0, 366)] := rfl
set_option maxRecDepth 20000 in
theorem zk_L_law_369 : z_blk 250 369 = [(5, 0, 0, 0, 369), (72, 0, 0, 0, 370)] := rfl
set_option maxRecDepth 20000 in
theorem zk_L_law_371 : z_blk 250 371 = [(54, 1784, 0, 0, 371)] := rfl
set_option maxRecDepth 20000 in
theorem zk_L_law_374 : z_blk 250 374 = [(2, 1, 0, 0, 374), (2, 0, 0, 0, 375), (1, 4, 0, 0, 376), (5, 1, 0, 0, 378), (20, 0, 0, 0, 379), (32, 0, 0, 0, 380), (2, 3, 0, 0, 381), (67, 82, 3, 111, 382), (11, 5, 0, 0, 385), (2, 2, 0, 0, 387), (2, 0, 0, 0, 388), (1, 4, 0, 0, 389), (5, 1, 0, 0, 391), (20, 0, 0, 0, 392), (32, 0, 0, 0, 393), (64, 201, 2, 113, 394), (11, 6, 0, 0, 397), (2, 2, 0, 0, 399), (64, 159, 1, 100, 400), (1, 5, 0, 0, 403), (42, 410, 408, 0, 405)] := rfl
set_option maxRecDepth 20000 in
theorem zk_L_law_408 : z_blk 250 408 = [(5, 0, 0, 0, 408), (72, 0, 0, 0, 409)] := rfl
set_option maxRecDepth 20000 in
theorem zk_L_law_410 : z_blk 250 410 = [(1, 5, 0, 0, 410), (49, 427, 415, 0, 412)] := rfl
set_option maxRecDepth 20000 in
theorem zk_L_law_415 : z_blk 250 415 = [(2, 3, 0, 0, 415), (5, 0, 0, 0, 416), (37, 0, 0, 0, 417), (1, 6, 0, 0, 418), (57, 0, 0, 0, 420), (60, 0, 0, 0, 421), (48, 427, 425, 0, 422)] := rfl
set_option maxRecDepth 20000 in
theorem zk_L_law_425 : z_blk 250 425 = [(5, 0, 0, 0, 425), (72, 0, 0, 0, 426)] := rfl
set_option maxRecDepth 20000 in
theorem zk_L_law_427 : z_blk 250 427 = [(54, 1784, 0, 0, 427)] := rfl
set_option maxRecDepth 20000 in
theorem zk_L_law_430 : z_blk 250 430 = [(2, 1, 0, 0, 430), (64, 23, 1, 114, 431), (2, 2, 0, 0, 434), (64, 204, 1, 117, 435), (42, 1784, 441, 0, 438)] := rfl
set_option maxRecDepth 20000 in
theorem zk_L_law_441 : z_blk 250 441 = [(5, 0, 0, 0, 441), (72, 0, 0, 0, 442)] := rfl
set_option maxRecDepth 20000 in
theorem zk_L_law_443 : z_blk 250 443 = [(2, 1, 0, 0, 443), (2, 0, 0, 0, 444), (1, 4, 0, 0, 445), (5, 1, 0, 0, 447), (20, 0, 0, 0, 448), (32, 0, 0, 0, 449), (2, 3, 0, 0, 450), (67, 86, 3, 118, 451), (11, 5, 0, 0, 454), (2, 2, 0, 0, 456), (2, 0, 0, 0, 457), (1, 4, 0, 0, 458), (5, 1, 0, 0, 460), (20, 0, 0, 0, 461), (32, 0, 0, 0, 462), (64, 206, 2, 120, 463), (11, 6, 0, 0, 466), (2, 2, 0, 0, 468), (64, 159, 1, 100, 469), (1, 5, 0, 0, 472), (42, 479, 477, 0, 474)] := rfl
set_option maxRecDepth 20000 in
theorem zk_L_law_477 : z_blk 250 477 = [(5, 0, 0, 0, 477), (72, 0, 0, 0, 478)] := rfl
set_option maxRecDepth 20000 in
theorem zk_L_law_479 : z_blk 250 479 = [(1, 5, 0, 0, 479), (49, 496, 484, 0, 481)] := rfl
set_option maxRecDepth 20000 in
theorem zk_L_law_484 : z_blk 250 484 = [(2, 3, 0, 0, 484), (5, 0, 0, 0, 485), (37, 0, 0, 0, 486), (1, 6, 0, 0, 487), (57, 0, 0, 0, 489), (60, 0, 0, 0, 490), (48, 496, 494, 0, 491)] := rfl
set_option maxRecDepth 20000 in
theorem zk_L_law_494 : z_blk 250 494 = [(5, 0, 0, 0, 494), (72, 0, 0, 0, 495)] := rfl
set_option maxRecDepth 20000 in
theorem zk_L_law_496 : z_blk 250 496 = [(54, 1784, 0, 0, 496)] := rfl
set_option maxRecDepth 20000 in
theorem zk_L_law_499 : z_blk 250 499 = [(2, 1, 0, 0, 499), (2, 0, 0, 0, 500), (1, 4, 0, 0, 501), (5, 1, 0, 0, 503), (20, 0, 0, 0, 504), (32, 0, 0, 0, 505), (2, 3, 0, 0, 506), (67, 93, 3, 121, 507), (11, 5, 0, 0, 510), (2, 2, 0, 0, 512), (2, 0, 0, 0, 513), (1, 4, 0, 0, 514), (5, 1, 0, 0, 516), (20, 0, 0, 0, 517), (32, 0, 0, 0, 518), (64, 209, 2, 123, 519), (11, 6, 0, 0, 522), (2, 2, 0, 0, 524), (64, 159, 1, 100, 525), (1, 5, 0, 0, 528), (42, 535, 533, 0, 530)] := rfl
set_option maxRecDepth 20000 in
theorem zk_L_law_533 : z_blk 250 533 = [(5, 0, 0, 0, 533), (72, 0, 0, 0, 534)] := rfl
set_option maxRecDepth 20000 in
theorem zk_L_law_535 : z_blk 250 535 = [(1, 5, 0, 0, 535), (49, 552, 540, 0, 537)] := rfl
set_option maxRecDepth 20000 in
theorem zk_L_law_540 : z_blk 250 540 = [(2, 3, 0, 0, 540), (5, 0, 0, 0, 541), (37, 0, 0, 0, 542), (1, 6, 0, 0, 543), (57, 0, 0, 0, 545), (60, 0, 0, 0, 546), (48, 552, 550, 0, 547)] := rfl
set_option maxRecDepth 20000 in
theorem zk_L_law_550 : z_blk 250 550 = [(5, 0, 0, 0, 550), (72, 0, 0, 0, 551)] := rfl
set_option maxRecDepth 20000 in
theorem zk_L_law_552 : z_blk 250 552 = [(54, 1784, 0, 0, 552)] := rfl
set_option maxRecDepth 20000 in
theorem zk_L_law_555 : z_blk 250 555 = [(2, 1, 0, 0, 555), (2, 0, 0, 0, 556), (1, 4, 0, 0, 557), (5, 1, 0, 0, 559), (20, 0, 0, 0, 560), (32, 0, 0, 0, 561), (2, 0, 0, 0, 562), (1, 4, 0, 0, 563), (5, 2, 0, 0, 565), (20, 0, 0, 0, 566), (32, 0, 0, 0, 567), (2, 3, 0, 0, 568), (67, 95, 4, 124, 569), (11, 5, 0, 0, 572), (2, 2, 0, 0, 574), (2, 0, 0, 0, 575), (1, 4, 0, 0, 576), (5, 1, 0, 0, 578), (20, 0, 0, 0, 579), (32, 0, 0, 0, 580), (2, 0, 0, 0, 581), (1, 4, 0, 0, 582), (5, 2, 0, 0, 584), (20, 0, 0, 0, 585), (32, 0, 0, 0, 586), (64, 210, 3, 127, 587), (11, 6, 0, 0, 590), (2, 2, 0, 0, 592), (64, 159, 1, 100, 593), (1, 5, 0, 0, 596), (42, 603, 601, 0, 598)] := rfl
set_option maxRecDepth 20000 in
theorem zk_L_law_601 : z_blk 250 601 = [(5, 0, 0, 0, 601), (72, 0, 0, 0, 602)] := rfl
set_option maxRecDepth 20000 in
theorem zk_L_law_603 : z_blk 250 603 = [(1, 5, 0, 0, 603), (49, 620, 608, 0, 605)] := rfl
set_option maxRecDepth 20000 in
theorem zk_L_law_608 : z_blk 250 608 = [(2, 3, 0, 0, 608), (5, 0, 0, 0, 609), (37, 0, 0, 0, 610), (1, 6, 0, 0, 611), (57, 0, 0, 0, 613), (60, 0, 0, 0, 614), (48, 620, 618, 0, 615)] := rfl
set_option maxRecDepth 20000 in
theorem zk_L_law_618 : z_blk 250 618 = [(5, 0, 0, 0, 618), (72, 0, 0, 0, 619)] := rfl
set_option maxRecDepth 20000 in
theorem zk_L_law_620 : z_blk 250 620 = [(54, 1784, 0, 0, 620)] := rfl
set_option maxRecDepth 20000 in
theorem zk_L_law_623 : z_blk 250 623 = [(2, 1, 0, 0, 623), (64, 28, 1, 128, 624), (2, 2, 0, 0, 627), (64, 178, 1, 131, 628), (42, 1784, 634, 0, 631)] := rfl
set_option maxRecDepth 20000 in
theorem zk_L_law_634 : z_blk 250 634 = [(5, 0, 0, 0, 634), (72, 0, 0, 0, 635)] := rfl
set_option maxRecDepth 20000 in
theorem zk_L_law_636 : z_blk 250 636 = [(2, 1, 0, 0, 636), (2, 0, 0, 0, 637), (1, 4, 0, 0, 638), (5, 1, 0, 0, 640), (20, 0, 0, 0, 641), (32, 0, 0, 0, 642), (2, 3, 0, 0, 643), (67, 98, 3, 132, 644), (11, 5, 0, 0, 647), (2, 2, 0, 0, 649), (2, 0, 0, 0, 650), (1, 4, 0, 0, 651), (5, 1, 0, 0, 653), (20, 0, 0, 0, 654), (32, 0, 0, 0, 655), (64, 212, 2, 134, 656), (11, 6, 0, 0, 659), (2, 2, 0, 0, 661), (64, 159, 1, 100, 662), (1, 5, 0, 0, 665), (42, 672, 670, 0, 667)] := rfl
set_option maxRecDepth 20000 in
theorem zk_L_law_670 : z_blk 250 670 = [(5, 0, 0, 0, 670), (72, 0, 0, 0, 671)] := rfl
set_option maxRecDepth 20000 in
theorem zk_L_law_672 : z_blk 250 672 = [(1, 5, 0, 0, 672), (49, 689, 677, 0, 674)] := rfl
set_option maxRecDepth 20000 in
theorem zk_L_law_677 : z_blk 250 677 = [(2, 3, 0, 0, 677), (5, 0, 0, 0, 678), (37, 0, 0, 0, 679), (1, 6, 0, 0, 680), (57, 0, 0, 0, 682), (60, 0, 0, 0, 683), (48, 689, 687, 0, 684)] := rfl
set_option maxRecDepth 20000 in
theorem zk_L_law_687 : z_blk 250 687 = [(5, 0, 0, 0, 687), (72, 0, 0, 0, 688)] := rfl
set_option maxRecDepth 20000 in
theorem zk_L_law_689 : z_blk 250 689 = [(54, 1784, 0, 0, 689)] := rfl
set_option maxRecDepth 20000 in
theorem zk_L_law_692 : z_blk 250 692 = [(2, 1, 0, 0, 692), (2, 0, 0, 0, 693), (1, 4, 0, 0, 694), (5, 1, 0, 0, 696), (20, 0, 0, 0, 697), (32, 0, 0, 0, 698), (2, 0, 0, 0, 699), (1, 4, 0, 0, 700), (5, 2, 0, 0, 702), (20, 0, 0, 0, 703), (32, 0, 0, 0, 704), (2, 3, 0, 0, 705), (67, 110, 4, 135, 706), (11, 5, 0, 0, 709), (2, 2, 0, 0, 711), (2, 0, 0, 0, 712), (1, 4, 0, 0, 713), (5, 1, 0, 0, 715), (20, 0, 0, 0, 716), (32, 0, 0, 0, 717), (2, 0, 0, 0, 718), (1, 4, 0, 0, 719), (5, 2, 0, 0, 721), (20, 0, 0, 0, 722), (32, 0, 0, 0, 723), (64, 224, 3, 137, 724), (11, 6, 0, 0, 727), (2, 2, 0, 0, 729), (64, 159, 1, 100, 730), (1, 5, 0, 0, 733), (42, 740, 738, 0, 735)] := rfl
set_option maxRecDepth 20000 in
theorem zk_L_law_738 : z_blk 250 738 = [(5, 0, 0, 0, 738), (72, 0, 0, 0, 739)] := rfl
set_option maxRecDepth 20000 in
theorem zk_L_law_740 : z_blk 250 740 = [(1, 5, 0, 0, 740), (49, 757, 745, 0, 742)] := rfl
set_option maxRecDepth 20000 in
theorem zk_L_law_745 : z_blk 250 745 = [(2, 3, 0, 0, 745), (5, 0, 0, 0, 746), (37, 0, 0, 0, 747), (1, 6, 0, 0, 748), (57, 0, 0, 0, 750), (60, 0, 0, 0, 751), (48, 757, 755, 0, 752)] := rfl
set_option maxRecDepth 20000 in
theorem zk_L_law_755 : z_blk 250 755 = [(5, 0, 0, 0, 755), (72, 0, 0, 0, 756)] := rfl
set_option maxRecDepth 20000 in
theorem zk_L_law_757 : z_blk 250 757 = [(54, 1784, 0, 0, 757)] := rfl
set_option maxRecDepth 20000 in
theorem zk_L_law_760 : z_blk 250 760 = [(2, 1, 0, 0, 760), (2, 0, 0, 0, 761), (1, 4, 0, 0, 762), (5, 1, 0, 0, 764), (20, 0, 0, 0, 765), (32, 0, 0, 0, 766), (2, 0, 0, 0, 767), (1, 4, 0, 0, 768), (5, 2, 0, 0, 770), (20, 0, 0, 0, 771), (32, 0, 0, 0, 772), (2, 0, 0, 0, 773), (1, 4, 0, 0, 774), (5, 3, 0, 0, 776), (20, 0, 0, 0, 777), (32, 0, 0, 0, 778), (2, 3, 0, 0, 779), (67, 112, 5, 138, 780), (11, 5, 0, 0, 783), (2, 2, 0, 0, 785), (2, 0, 0, 0, 786), (1, 4, 0, 0, 787), (5, 1, 0, 0, 789), (20, 0, 0, 0, 790), (32, 0, 0, 0, 791), (2, 0, 0, 0, 792), (1, 4, 0, 0, 793), (5, 2, 0, 0, 795), (20, 0, 0, 0, 796), (32, 0, 0, 0, 797), (2, 0, 0, 0, 798), (1, 4, 0, 0, 799), (5, 3, 0, 0, 801), (20, 0, 0, 0, 802), (32, 0, 0, 0, 803), (64, 225, 4, 141, 804), (11, 6, 0, 0, 807), (2, 2, 0, 0, 809), (64, 159, 1, 100, 810), (1, 5, 0, 0, 813), (42, 820, 818, 0, 815)] := rfl
set_option maxRecDepth 20000 in
theorem zk_L_law_818 : z_blk 250 818 = [(5, 0, 0, 0, 818), (72, 0, 0, 0, 819)] := rfl
set_option maxRecDepth 20000 in
theorem zk_L_law_820 : z_blk 250 820 = [(1, 5, 0, 0, 820), (49, 837, 825, 0, 822)] := rfl
set_option maxRecDepth 20000 in
theorem zk_L_law_825 : z_blk 250 825 = [(2, 3, 0, 0, 825), (5, 0, 0, 0, 826), (37, 0, 0, 0, 827), (1, 6, 0, 0, 828), (57, 0, 0, 0, 830), (60, 0, 0, 0, 831), (48, 837, 835, 0, 832)] := rfl
set_option maxRecDepth 20000 in
theorem zk_L_law_835 : z_blk 250 835 = [(5, 0, 0, 0, 835), (72, 0, 0, 0, 836)] := rfl
set_option maxRecDepth 20000 in
theorem zk_L_law_837 : z_blk 250 837 = [(54, 1784, 0, 0, 837)] := rfl
set_option maxRecDepth 20000 in
theorem zk_L_law_840 : z_blk 250 840 = [(2, 1, 0, 0, 840), (2, 0, 0, 0, 841), (1, 4, 0, 0, 842), (5, 1, 0, 0, 844), (20, 0, 0, 0, 845), (32, 0, 0, 0, 846), (2, 0, 0, 0, 847), (1, 4, 0, 0, 848), (5, 2, 0, 0, 850), (20, 0, 0, 0, 851), (32, 0, 0, 0, 852), (2, 3, 0, 0, 853), (67, 115, 4, 142, 854), (11, 5, 0, 0, 857), (2, 2, 0, 0, 859), (2, 0, 0, 0, 860), (1, 4, 0, 0, 861), (5, 1, 0, 0, 863), (20, 0, 0, 0, 864), (32, 0, 0, 0, 865), (2, 0, 0, 0, 866), (1, 4, 0, 0, 867), (5, 2, 0, 0, 869), (20, 0, 0, 0, 870), (32, 0, 0, 0, 871), (64, 227, 3, 144, 872), (11, 6, 0, 0, 875), (2, 2, 0, 0, 877), (64, 159, 1, 100, 878), (1, 5, 0, 0, 881), (42, 888, 886, 0, 883)] := rfl
set_option maxRecDepth 20000 in
theorem zk_L_law_886 : z_blk 250 886 = [(5, 0, 0, 0, 886), (72, 0, 0, 0, 887)] := rfl
set_option maxRecDepth 20000 in
theorem zk_L_law_888 : z_blk 250 888 = [(1, 5, 0, 0, 888), (49, 905, 893, 0, 890)] := rfl
set_option maxRecDepth 20000 in
theorem zk_L_law_893 : z_blk 250 893 = [(2, 3, 0, 0, 893), (5, 0, 0, 0, 894), (37, 0, 0, 0, 895), (1, 6, 0, 0, 896), (57, 0, 0, 0, 898), (60, 0, 0, 0, 899), (48, 905, 903, 0, 900)] := rfl
set_option maxRecDepth 20000 in
theorem zk_L_law_903 : z_blk 250 903 = [(5, 0, 0, 0, 903), (72, 0, 0, 0, 904)] := rfl
set_option maxRecDepth 20000 in
theorem zk_L_law_905 : z_blk 250 905 = [(54, 1784, 0, 0, 905)] := rfl
set_option maxRecDepth 20000 in
theorem zk_L_law_908 : z_blk 250 908 = [(2, 1, 0, 0, 908), (2, 0, 0, 0, 909), (1, 4, 0, 0, 910), (5, 1, 0, 0, 912), (20, 0, 0, 0, 913), (32, 0, 0, 0, 914), (2, 0, 0, 0, 915), (1, 4, 0, 0, 916), (5, 2, 0, 0, 918), (20, 0, 0, 0, 919), (32, 0, 0, 0, 920), (2, 3, 0, 0, 921), (67, 118, 4, 145, 922), (11, 5, 0, 0, 925), (2, 2, 0, 0, 927), (2, 0, 0, 0, 928), (1, 4, 0, 0, 929), (5, 1, 0, 0, 931), (20, 0, 0, 0, 932), (32, 0, 0, 0, 933), (2, 0, 0, 0, 934), (1, 4, 0, 0, 935), (5, 2, 0, 0, 937), (20, 0, 0, 0, 938), (32, 0, 0, 0, 939), (64, 229, 3, 147, 940), (11, 6, 0, 0, 943), (2, 2, 0, 0, 945), (64, 159, 1, 100, 946), (1, 5, 0, 0, 949), (42, 956, 954, 0, 951)] := rfl
set_option maxRecDepth 20000 in
theorem zk_L_law_954 : z_blk 250 954 = [(5, 0, 0, 0, 954), (72, 0, 0, 0, 955)] := rfl
set_option maxRecDepth 20000 in
theorem zk_L_law_956 : z_blk 250 956 = [(1, 5, 0, 0, 956), (49, 980, 961, 0, 958)] := rfl
set_option maxRecDepth 20000 in
theorem zk_L_law_961 : z_blk 250 961 = [(2, 3, 0, 0, 961), (5, 0, 0, 0, 962), (37, 0, 0, 0, 963), (1, 6, 0, 0, 964), (48, 973, 969, 0, 966)] := rfl
set_option maxRecDepth 20000 in
theorem zk_L_law_969 : z_blk 250 969 = [(62, 1, 0, 0, 969), (54, 974, 0, 0, 970)] := rfl
set_option maxRecDepth 20000 in
theorem zk_L_law_973 : z_blk 250 973 = [(62, 0, 0, 0, 973), (55, 974, 0, 0, 974)] := rfl
set_option maxRecDepth 20000 in
theorem zk_L_law_974 : z_blk 250 974 = [(60, 0, 0, 0, 974), (48, 980, 978, 0, 975)] := rfl
set_option maxRecDepth 20000 in
theorem zk_L_law_978 : z_blk 250 978 = [(5, 0, 0, 0, 978), (72, 0, 0, 0, 979)] := rfl
set_option maxRecDepth 20000 in
theorem zk_L_law_980 : z_blk 250 980 = [(54, 1784, 0, 0, 980)] := rfl
set_option maxRecDepth 20000 in
theorem zk_L_law_983 : z_blk 250 983 = [(2, 1, 0, 0, 983), (2, 0, 0, 0, 984), (1, 4, 0, 0, 985), (5, 1, 0, 0, 987), (20, 0, 0, 0, 988), (32, 0, 0, 0, 989), (2, 0, 0, 0, 990), (1, 4, 0, 0, 991), (5, 2, 0, 0, 993), (20, 0, 0, 0, 994), (32, 0, 0, 0, 995), (2, 3, 0, 0, 996), (67, 120, 4, 148, 997), (11, 5, 0, 0, 1000), (2, 2, 0, 0, 1002), (2, 0, 0, 0, 1003), (1, 4, 0, 0, 1004), (5, 1, 0, 0, 1006), (20, 0, 0, 0, 1007), (32, 0, 0, 0, 1008), (2, 0, 0, 0, 1009), (1, 4, 0, 0, 1010), (5, 2, 0, 0, 1012), (20, 0, 0, 0, 1013), (32, 0, 0, 0, 1014), (64, 230, 3, 150, 1015), (11, 6, 0, 0, 1018), (2, 2, 0, 0, 1020), (64, 159, 1, 100, 1021), (1, 5, 0, 0, 1024), (42, 1031, 1029, 0, 1026)] := rfl
set_option maxRecDepth 20000 in
theorem zk_L_law_1029 : z_blk 250 1029 = [(5, 0, 0, 0, 1029), (72, 0, 0, 0, 1030)] := rfl
set_option maxRecDepth 20000 in
theorem zk_L_law_1031 : z_blk 250 1031 = [(1, 5, 0, 0, 1031), (49, 1048, 1036, 0, 1033)] := rfl
set_option maxRecDepth 20000 in
theorem zk_L_law_1036 : z_blk 250 1036 = [(2, 3, 0, 0, 1036), (5, 0, 0, 0, 1037), (37, 0, 0, 0, 1038), (1, 6, 0, 0, 1039), (57, 0, 0, 0, 1041), (60, 0, 0, 0, 1042), (48, 1048, 1046, 0, 1043)] := rfl
set_option maxRecDepth 20000 in
theorem zk_L_law_1046 : z_blk 250 1046 = [(5, 0, 0, 0, 1046), (72, 0, 0, 0, 1047)] := rfl
set_option maxRecDepth 20000 in
theorem zk_L_law_1048 : z_blk 250 1048 = [(54, 1784, 0, 0, 1048)] := rfl
set_option maxRecDepth 20000 in
theorem zk_L_law_1051 : z_blk 250 1051 = [(2, 1, 0, 0, 1051), (2, 0, 0, 0, 1052), (1, 4, 0, 0, 1053), (5, 1, 0, 0, 1055), (20, 0, 0, 0, 1056), (32, 0, 0, 0, 1057), (2, 0, 0, 0, 1058), (1, 4, 0, 0, 1059), (5, 2, 0, 0, 1061), (20, 0, 0, 0, 1062), (32, 0, 0, 0, 1063), (2, 3, 0, 0, 1064), (67, 122, 4, 151, 1065), (11, 5, 0, 0, 1068), (2, 2, 0, 0, 1070), (2, 0, 0, 0, 1071), (1, 4, 0, 0, 1072), (5, 1, 0, 0, 1074), (20, 0, 0, 0, 1075), (32, 0, 0, 0, 1076), (2, 0, 0, 0, 1077), (1, 4, 0, 0, 1078), (5, 2, 0, 0, 1080), (20, 0, 0, 0, 1081), (32, 0, 0, 0, 1082), (64, 231, 3, 153, 1083), (11, 6, 0, 0, 1086), (2, 2, 0, 0, 1088), (64, 159, 1, 100, 1089), (1, 5, 0, 0, 1092), (42, 1099, 1097, 0, 1094)] := rfl
set_option maxRecDepth 20000 in
theorem zk_L_law_1097 : z_blk 250 1097 = [(5, 0, 0, 0, 1097), (72, 0, 0, 0, 1098)] := rfl
set_option maxRecDepth 20000 in
theorem zk_L_law_1099 : z_blk 250 1099 = [(1, 5, 0, 0, 1099), (49, 1116, 1104, 0, 1101)] := rfl
set_option maxRecDepth 20000 in
theorem zk_L_law_1104 : z_blk 250 1104 = [(2, 3, 0, 0, 1104), (5, 0, 0, 0, 1105), (37, 0, 0, 0, 1106), (1, 6, 0, 0, 1107), (57, 0, 0, 0, 1109), (60, 0, 0, 0, 1110), (48, 1116, 1114, 0, 1111)] := rfl
set_option maxRecDepth 20000 in
theorem zk_L_law_1114 : z_blk 250 1114 = [(5, 0, 0, 0, 1114), (72, 0, 0, 0, 1115)] := rfl
set_option maxRecDepth 20000 in
theorem zk_L_law_1116 : z_blk 250 1116 = [(54, 1784, 0, 0, 1116)] := rfl
set_option maxRecDepth 20000 in
theorem zk_L_law_1119 : z_blk 250 1119 = [(2, 1, 0, 0, 1119), (2, 0, 0, 0, 1120), (1, 4, 0, 0, 1121), (5, 1, 0, 0, 1123), (20, 0, 0, 0, 1124), (32, 0, 0, 0, 1125), (2, 0, 0, 0, 1126), (1, 4, 0, 0, 1127), (5, 2, 0, 0, 1129), (20, 0, 0, 0, 1130), (32, 0, 0, 0, 1131), (2, 3, 0, 0, 1132), (67, 124, 4, 154, 1133), (11, 5, 0, 0, 1136), (2, 2, 0, 0, 1138), (2, 0, 0, 0, 1139), (1, 4, 0, 0, 1140), (5, 1, 0, 0, 1142), (20, 0, 0, 0, 1143), (32, 0, 0, 0, 1144), (2, 0, 0, 0, 1145), (1, 4, 0, 0, 1146), (5, 2, 0, 0, 1148), (20, 0, 0, 0, 1149), (32, 0, 0, 0, 1150), (64, 232, 3, 156, 1151), (11, 6, 0, 0, 1154), (2, 2, 0, 0, 1156), (64, 159, 1, 100, 1157), (1, 5, 0, 0, 1160), (42, 1167, 1165, 0, 1162)] := rfl
set_option maxRecDepth 20000 in
theorem zk_L_law_1165 : z_blk 250 1165 = [(5, 0, 0, 0, 1165), (72, 0, 0, 0, 1166)] := rfl
set_option maxRecDepth 20000 in
theorem zk_L_law_1167 : z_blk 250 1167 = [(1, 5, 0, 0, 1167), (49, 1184, 1172, 0, 1169)] := rfl
set_option maxRecDepth 20000 in
theorem zk_L_law_1172 : z_blk 250 1172 = [(2, 3, 0, 0, 1172), (5, 0, 0, 0, 1173), (37, 0, 0, 0, 1174), (1, 6, 0, 0, 1175), (57, 0, 0, 0, 1177), (60, 0, 0, 0, 1178), (48, 1184, 1182, 0, 1179)] := rfl
set_option maxRecDepth 20000 in
theorem zk_L_law_1182 : z_blk 250 1182 = [(5, 0, 0, 0, 1182), (72, 0, 0, 0, 1183)] := rfl
set_option maxRecDepth 20000 in
theorem zk_L_law_1184 : z_blk 250 1184 = [(54, 1784, 0, 0, 1184)] := rfl
set_option maxRecDepth 20000 in
theorem zk_L_law_1187 : z_blk 250 1187 = [(2, 1, 0, 0, 1187), (2, 0, 0, 0, 1188), (1, 4, 0, 0, 1189), (5, 1, 0, 0, 1191), (20, 0, 0, 0, 1192), (32, 0, 0, 0, 1193), (2, 0, 0, 0, 1194), (1, 4, 0, 0, 1195), (5, 2, 0, 0, 1197), (20, 0, 0, 0, 1198), (32, 0, 0, 0, 1199), (2, 3, 0, 0, 1200), (67, 126, 4, 157, 1201), (11, 5, 0, 0, 1204), (2, 2, 0, 0, 1206), (2, 0, 0, 0, 1207), (1, 4, 0, 0, 1208), (5, 1, 0, 0, 1210), (20, 0, 0, 0, 1211), (32, 0, 0, 0, 1212), (2, 0, 0, 0, 1213), (1, 4, 0, 0, 1214), (5, 2, 0, 0, 1216), (20, 0, 0, 0, 1217), (32, 0, 0, 0, 1218), (64, 233, 3, 159, 1219), (11, 6, 0, 0, 1222), (2, 2, 0, 0, 1224), (64, 159, 1, 100, 1225), (1, 5, 0, 0, 1228), (42, 1235, 1233, 0, 1230)] := rfl
set_option maxRecDepth 20000 in
theorem zk_L_law_1233 : z_blk 250 1233 = [(5, 0, 0, 0, 1233), (72, 0, 0, 0, 1234)] := rfl
set_option maxRecDepth 20000 in
theorem zk_L_law_1235 : z_blk 250 1235 = [(1, 5, 0, 0, 1235), (49, 1252, 1240, 0, 1237)] := rfl
set_option maxRecDepth 20000 in
theorem zk_L_law_1240 : z_blk 250 1240 = [(2, 3, 0, 0, 1240), (5, 0, 0, 0, 1241), (37, 0, 0, 0, 1242), (1, 6, 0, 0, 1243), (57, 0, 0, 0, 1245), (60, 0, 0, 0, 1246), (48, 1252, 1250, 0, 1247)] := rfl
set_option maxRecDepth 20000 in
theorem zk_L_law_1250 : z_blk 250 1250 = [(5, 0, 0, 0, 1250), (72, 0, 0, 0, 1251)] := rfl
set_option maxRecDepth 20000 in
theorem zk_L_law_1252 : z_blk 250 1252 = [(54, 1784, 0, 0, 1252)] := rfl
set_option maxRecDepth 20000 in
theorem zk_L_law_1255 : z_blk 250 1255 = [(2, 1, 0, 0, 1255), (64, 29, 1, 160, 1256), (2, 2, 0, 0, 1259), (64, 234, 1, 163, 1260), (42, 1784, 1266, 0, 1263)] := rfl
set_option maxRecDepth 20000 in
theorem zk_L_law_1266 : z_blk 250 1266 = [(5, 0, 0, 0, 1266), (72, 0, 0, 0, 1267)] := rfl
set_option maxRecDepth 20000 in
theorem zk_L_law_1268 : z_blk 250 1268 = [(2, 1, 0, 0, 1268), (2, 0, 0, 0, 1269), (1, 4, 0, 0, 1270), (5, 1, 0, 0, 1272), (20, 0, 0, 0, 1273), (32, 0, 0, 0, 1274), (2, 0, 0, 0, 1275), (1, 4, 0, 0, 1276), (5, 2, 0, 0, 1278), (20, 0, 0, 0, 1279), (32, 0, 0, 0, 1280), (2, 3, 0, 0, 1281), (67, 129, 4, 164, 1282), (11, 5, 0, 0, 1285), (2, 2, 0, 0, 1287), (2, 0, 0, 0, 1288), (1, 4, 0, 0, 1289), (5, 1, 0, 0, 1291), (20, 0, 0, 0, 1292), (32, 0, 0, 0, 1293), (2, 0, 0, 0, 1294), (1, 4, 0, 0, 1295), (5, 2, 0, 0, 1297), (20, 0, 0, 0, 1298), (32, 0, 0, 0, 1299), (64, 235, 3, 166, 1300), (11, 6, 0, 0, 1303), (2, 2, 0, 0, 1305), (64, 159, 1, 100, 1306), (1, 5, 0, 0, 1309), (42, 1316, 1314, 0, 1311)] := rfl
set_option maxRecDepth 20000 in
theorem zk_L_law_1314 : z_blk 250 1314 = [(5, 0, 0, 0, 1314), (72, 0, 0, 0, 1315)] := rfl
set_option maxRecDepth 20000 in
theorem zk_L_law_1316 : z_blk 250 1316 = [(1, 5, 0, 0, 1316), (49, 1333, 1321, 0, 1318)] := rfl
set_option maxRecDepth 20000 in
theorem zk_L_law_1321 : z_blk 250 1321 = [(2, 3, 0, 0, 1321), (5, 0, 0, 0, 1322), (37, 0, 0, 0, 1323), (1, 6, 0, 0, 1324), (57, 0, 0, 0, 1326), (60, 0, 0, 0, 1327), (48, 1333, 1331, 0, 1328)] := rfl
set_option maxRecDepth 20000 in
theorem zk_L_law_1331 : z_blk 250 1331 = [(5, 0, 0, 0, 1331), (72, 0, 0, 0, 1332)] := rfl
set_option maxRecDepth 20000 in
theorem zk_L_law_1333 : z_blk 250 1333 = [(54, 1784, 0, 0, 1333)] := rfl
set_option maxRecDepth 20000 in
theorem zk_L_law_1336 : z_blk 250 1336 = [(2, 1, 0, 0, 1336), (64, 32, 1, 167, 1337), (2, 2, 0, 0, 1340), (64, 236, 1, 170, 1341), (42, 1784, 1347, 0, 1344)] := rfl
set_option maxRecDepth 20000 in
theorem zk_L_law_1347 : z_blk 250 1347 = [(5, 0, 0, 0, 1347), (72, 0, 0, 0, 1348)] := rfl
set_option maxRecDepth 20000 in
theorem zk_L_law_1349 : z_blk 250 1349 = [(2, 1, 0, 0, 1349), (2, 0, 0, 0, 1350), (1, 4, 0, 0, 1351), (5, 1, 0, 0, 1353), (20, 0, 0, 0, 1354), (32, 0, 0, 0, 1355), (2, 3, 0, 0, 1356), (67, 132, 3, 171, 1357), (11, 5, 0, 0, 1360), (2, 2, 0, 0, 1362), (2, 0, 0, 0, 1363), (1, 4, 0, 0, 1364), (5, 1, 0, 0, 1366), (20, 0, 0, 0, 1367), (32, 0, 0, 0, 1368), (64, 238, 2, 173, 1369), (11, 6, 0, 0, 1372), (2, 2, 0, 0, 1374), (64, 159, 1, 100, 1375), (1, 5, 0, 0, 1378), (42, 1385, 1383, 0, 1380)] := rfl
set_option maxRecDepth 20000 in
theorem zk_L_law_1383 : z_blk 250 1383 = [(5, 0, 0, 0, 1383), (72, 0, 0, 0, 1384)] := rfl
set_option maxRecDepth 20000 in
theorem zk_L_law_1385 : z_blk 250 1385 = [(1, 5, 0, 0, 1385), (49, 1402, 1390, 0, 1387)] := rfl
set_option maxRecDepth 20000 in
theorem zk_L_law_1390 : z_blk 250 1390 = [(2, 3, 0, 0, 1390), (5, 0, 0, 0, 1391), (37, 0, 0, 0, 1392), (1, 6, 0, 0, 1393), (57, 0, 0, 0, 1395), (60, 0, 0, 0, 1396), (48, 1402, 1400, 0, 1397)] := rfl
set_option maxRecDepth 20000 in
theorem zk_L_law_1400 : z_blk 250 1400 = [(5, 0, 0, 0, 1400), (72, 0, 0, 0, 1401)] := rfl
set_option maxRecDepth 20000 in
theorem zk_L_law_1402 : z_blk 250 1402 = [(54, 1784, 0, 0, 1402)] := rfl
set_option maxRecDepth 20000 in
theorem zk_L_law_1405 : z_blk 250 1405 = [(2, 1, 0, 0, 1405), (2, 0, 0, 0, 1406), (1, 4, 0, 0, 1407), (5, 1, 0, 0, 1409), (20, 0, 0, 0, 1410), (32, 0, 0, 0, 1411), (2, 3, 0, 0, 1412), (67, 135, 3, 174, 1413), (11, 5, 0, 0, 1416), (2, 2, 0, 0, 1418), (2, 0, 0, 0, 1419), (1, 4, 0, 0, 1420), (5, 1, 0, 0, 1422), (20, 0, 0, 0, 1423), (32, 0, 0, 0, 1424), (64, 240, 2, 176, 1425), (11, 6, 0, 0, 1428), (2, 2, 0, 0, 1430), (64, 159, 1, 100, 1431), (1, 5, 0, 0, 1434), (42, 1441, 1439, 0, 1436)] := rfl
set_option maxRecDepth 20000 in
theorem zk_L_law_1439 : z_blk 250 1439 = [(5, 0, 0, 0, 1439), (72, 0, 0, 0, 1440)] := rfl
set_option maxRecDepth 20000 in
theorem zk_L_law_1441 : z_blk 250 1441 = [(1, 5, 0, 0, 1441), (49, 1458, 1446, 0, 1443)] := rfl
set_option maxRecDepth 20000 in
theorem zk_L_law_1446 : z_blk 250 1446 = [(2, 3, 0, 0, 1446), (5, 0, 0, 0, 1447), (37, 0, 0, 0, 1448), (1, 6, 0, 0, 1449), (57, 0, 0, 0, 1451), (60, 0, 0, 0, 1452), (48, 1458, 1456, 0, 1453)] := rfl
set_option maxRecDepth 20000 in
theorem zk_L_law_1456 : z_blk 250 1456 = [(5, 0, 0, 0, 1456), (72, 0, 0, 0, 1457)] := rfl
set_option maxRecDepth 20000 in
theorem zk_L_law_1458 : z_blk 250 1458 = [(54, 1784, 0, 0, 1458)] := rfl
set_option maxRecDepth 20000 in
theorem zk_L_law_1461 : z_blk 250 1461 = [(2, 1, 0, 0, 1461), (2, 0, 0, 0, 1462), (1, 4, 0, 0, 1463), (5, 1, 0, 0, 1465), (20, 0, 0, 0, 1466), (32, 0, 0, 0, 1467), (2, 0, 0, 0, 1468), (1, 4, 0, 0, 1469), (5, 2, 0, 0, 1471), (20, 0, 0, 0, 1472), (32, 0, 0, 0, 1473), (2, 3, 0, 0, 1474), (67, 138, 4, 177, 1475), (11, 5, 0, 0, 1478), (2, 2, 0, 0, 1480), (2, 0, 0, 0, 1481), (1, 4, 0, 0, 1482), (5, 1, 0, 0, 1484), (20, 0, 0, 0, 1485), (32, 0, 0, 0, 1486), (2, 0, 0, 0, 1487), (1, 4, 0, 0, 1488), (5, 2, 0, 0, 1490), (20, 0, 0, 0, 1491), (32, 0, 0, 0, 1492), (64, 241, 3, 179, 1493), (11, 6, 0, 0, 1496), (2, 2, 0, 0, 1498), (64, 159, 1, 100, 1499), (1, 5, 0, 0, 1502), (42, 1509, 1507, 0, 1504)] := rfl
set_option maxRecDepth 20000 in
theorem zk_L_law_1507 : z_blk 250 1507 = [(5, 0, 0, 0, 1507), (72, 0, 0, 0, 1508)] := rfl
set_option maxRecDepth 20000 in
theorem zk_L_law_1509 : z_blk 250 1509 = [(1, 5, 0, 0, 1509), (49, 1526, 1514, 0, 1511)] := rfl
set_option maxRecDepth 20000 in
theorem zk_L_law_1514 : z_blk 250 1514 = [(2, 3, 0, 0, 1514), (5, 0, 0, 0, 1515), (37, 0, 0, 0, 1516), (1, 6, 0, 0, 1517), (57, 0, 0, 0, 1519), (60, 0, 0, 0, 1520), (48, 1526, 1524, 0, 1521)] := rfl
set_option maxRecDepth 20000 in
theorem zk_L_law_1524 : z_blk 250 1524 = [(5, 0, 0, 0, 1524), (72, 0, 0, 0, 1525)] := rfl
set_option maxRecDepth 20000 in
theorem zk_L_law_1526 : z_blk 250 1526 = [(54, 1784, 0, 0, 1526)] := rfl
set_option maxRecDepth 20000 in
theorem zk_L_law_1529 : z_blk 250 1529 = [(2, 1, 0, 0, 1529), (2, 0, 0, 0, 1530), (1, 4, 0, 0, 1531), (5, 1, 0, 0, 1533), (20, 0, 0, 0, 1534), (32, 0, 0, 0, 1535), (2, 0, 0, 0, 1536), (1, 4, 0, 0, 1537), (5, 2, 0, 0, 1539), (20, 0, 0, 0, 1540), (32, 0, 0, 0, 1541), (2, 3, 0, 0, 1542), (67, 140, 4, 180, 1543), (11, 5, 0, 0, 1546), (2, 2, 0, 0, 1548), (2, 0, 0, 0, 1549), (1, 4, 0, 0, 1550), (5, 1, 0, 0, 1552), (20, 0, 0, 0, 1553), (32, 0, 0, 0, 1554), (2, 0, 0, 0, 1555), (1, 4, 0, 0, 1556), (5, 2, 0, 0, 1558), (20, 0, 0, 0, 1559), (32, 0, 0, 0, 1560), (64, 242, 3, 182, 1561), (11, 6, 0, 0, 1564), (2, 2, 0, 0, 1566), (64, 159, 1, 100, 1567), (1, 5, 0, 0, 1570), (42, 1577, 1575, 0, 1572)] := rfl
set_option maxRecDepth 20000 in
theorem zk_L_law_1575 : z_blk 250 1575 = [(5, 0, 0, 0, 1575), (72, 0, 0, 0, 1576)] := rfl
set_option maxRecDepth 20000 in
theorem zk_L_law_1577 : z_blk 250 1577 = [(1, 5, 0, 0, 1577), (49, 1594, 1582, 0, 1579)] := rfl
set_option maxRecDepth 20000 in
theorem zk_L_law_1582 : z_blk 250 1582 = [(2, 3, 0, 0, 1582), (5, 0, 0, 0, 1583), (37, 0, 0, 0, 1584), (1, 6, 0, 0, 1585), (57, 0, 0, 0, 1587), (60, 0, 0, 0, 1588), (48, 1594, 1592, 0, 1589)] := rfl
set_option maxRecDepth 20000 in
theorem zk_L_law_1592 : z_blk 250 1592 = [(5, 0, 0, 0, 1592), (72, 0, 0, 0, 1593)] := rfl
set_option maxRecDepth 20000 in
theorem zk_L_law_1594 : z_blk 250 1594 = [(54, 1784, 0, 0, 1594)] := rfl
set_option maxRecDepth 20000 in
theorem zk_L_law_1597 : z_blk 250 1597 = [(2, 1, 0, 0, 1597), (2, 0, 0, 0, 1598), (1, 4, 0, 0, 1599), (5, 1, 0, 0, 1601), (20, 0, 0, 0, 1602), (32, 0, 0, 0, 1603), (2, 0, 0, 0, 1604), (1, 4, 0, 0, 1605), (5, 2, 0, 0, 1607), (20, 0, 0, 0, 1608), (32, 0, 0, 0, 1609), (2, 3, 0, 0, 1610), (67, 142, 4, 183, 1611), (11, 5, 0, 0, 1614), (2, 2, 0, 0, 1616), (2, 0, 0, 0, 1617), (1, 4, 0, 0, 1618), (5, 1, 0, 0, 1620), (20, 0, 0, 0, 1621), (32, 0, 0, 0, 1622), (2, 0, 0, 0, 1623), (1, 4, 0, 0, 1624), (5, 2, 0, 0, 1626), (20, 0, 0, 0, 1627), (32, 0, 0, 0, 1628), (64, 243, 3, 185, 1629), (11, 6, 0, 0, 1632), (2, 2, 0, 0, 1634), (64, 159, 1, 100, 1635), (1, 5, 0, 0, 1638), (42, 1645, 1643, 0, 1640)] := rfl
set_option maxRecDepth 20000 in
theorem zk_L_law_1643 : z_blk 250 1643 = [(5, 0, 0, 0, 1643), (72, 0, 0, 0, 1644)] := rfl
set_option maxRecDepth 20000 in
theorem zk_L_law_1645 : z_blk 250 1645 = [(1, 5, 0, 0, 1645), (49, 1662, 1650, 0, 1647)] := rfl
set_option maxRecDepth 20000 in
theorem zk_L_law_1650 : z_blk 250 1650 = [(2, 3, 0, 0, 1650), (5, 0, 0, 0, 1651), (37, 0, 0, 0, 1652), (1, 6, 0, 0, 1653), (57, 0, 0, 0, 1655), (60, 0, 0, 0, 1656), (48, 1662, 1660, 0, 1657)] := rfl
set_option maxRecDepth 20000 in
theorem zk_L_law_1660 : z_blk 250 1660 = [(5, 0, 0, 0, 1660), (72, 0, 0, 0, 1661)] := rfl
set_option maxRecDepth 20000 in
theorem zk_L_law_1662 : z_blk 250 1662 = [(54, 1784, 0, 0, 1662)] := rfl
set_option maxRecDepth 20000 in
theorem zk_L_law_1665 : z_blk 250 1665 = [(2, 1, 0, 0, 1665), (2, 0, 0, 0, 1666), (1, 4, 0, 0, 1667), (5, 1, 0, 0, 1669), (20, 0, 0, 0, 1670), (32, 0, 0, 0, 1671), (2, 0, 0, 0, 1672), (1, 4, 0, 0, 1673), (5, 2, 0, 0, 1675), (20, 0, 0, 0, 1676), (32, 0, 0, 0, 1677), (2, 0, 0, 0, 1678), (1, 4, 0, 0, 1679), (5, 3, 0, 0, 1681), (20, 0, 0, 0, 1682), (32, 0, 0, 0, 1683), (2, 3, 0, 0, 1684), (67, 145, 5, 186, 1685), (11, 5, 0, 0, 1688), (2, 2, 0, 0, 1690), (2, 0, 0, 0, 1691), (1, 4, 0, 0, 1692), (5, 1, 0, 0, 1694), (20, 0, 0, 0, 1695), (32, 0, 0, 0, 1696), (2, 0, 0, 0, 1697), (1, 4, 0, 0, 1698), (5, 2, 0, 0, 1700), (20, 0, 0, 0, 1701), (32, 0, 0, 0, 1702), (2, 0, 0, 0, 1703), (1, 4, 0, 0, 1704), (5, 3, 0, 0, 1706), (20, 0, 0, 0, 1707), (32, 0, 0, 0, 1708), (64, 245, 4, 188, 1709), (11, 6, 0, 0, 1712), (2, 2, 0, 0, 1714), (64, 159, 1, 100, 1715), (1, 5, 0, 0, 1718), (42, 1725, 1723, 0, 1720)] := rfl
set_option maxRecDepth 20000 in
theorem zk_L_law_1723 : z_blk 250 1723 = [(5, 0, 0, 0, 1723), (72, 0, 0, 0, 1724)] := rfl
set_option maxRecDepth 20000 in
theorem zk_L_law_1725 : z_blk 250 1725 = [(1, 5, 0, 0, 1725), (49, 1742, 1730, 0, 1727)] := rfl
set_option maxRecDepth 20000 in
theorem zk_L_law_1730 : z_blk 250 1730 = [(2, 3, 0, 0, 1730), (5, 0, 0, 0, 1731), (37, 0, 0, 0, 1732), (1, 6, 0, 0, 1733), (57, 0, 0, 0, 1735), (60, 0, 0, 0, 1736), (48, 1742, 1740, 0, 1737)] := rfl
set_option maxRecDepth 20000 in
theorem zk_L_law_1740 : z_blk 250 1740 = [(5, 0, 0, 0, 1740), (72, 0, 0, 0, 1741)] := rfl
set_option maxRecDepth 20000 in
theorem zk_L_law_1742 : z_blk 250 1742 = [(54, 1784, 0, 0, 1742)] := rfl
set_option maxRecDepth 20000 in
theorem zk_L_law_1745 : z_blk 250 1745 = [(2, 1, 0, 0, 1745), (64, 57, 1, 189, 1746), (2, 2, 0, 0, 1749), (64, 248, 1, 193, 1750), (60, 0, 0, 0, 1753), (48, 1784, 1757, 0, 1754)] := rfl
set_option maxRecDepth 20000 in
theorem zk_L_law_1757 : z_blk 250 1757 = [(5, 0, 0, 0, 1757), (72, 0, 0, 0, 1758)] := rfl
set_option maxRecDepth 20000 in
theorem zk_L_law_1759 : z_blk 250 1759 = [(2, 1, 0, 0, 1759), (2, 0, 0, 0, 1760), (1, 4, 0, 0, 1761), (5, 1, 0, 0, 1763), (20, 0, 0, 0, 1764), (32, 0, 0, 0, 1765), (64, 58, 2, 194, 1766), (2, 2, 0, 0, 1769), (2, 0, 0, 0, 1770), (1, 4, 0, 0, 1771), (5, 1, 0, 0, 1773), (20, 0, 0, 0, 1774), (32, 0, 0, 0, 1775), (64, 249, 2, 197, 1776), (42, 1784, 1782, 0, 1779)] := rfl
set_option maxRecDepth 20000 in
theorem zk_L_law_1782 : z_blk 250 1782 = [(5, 0, 0, 0, 1782), (72, 0, 0, 0, 1783)] := rfl
set_option maxRecDepth 20000 in
theorem zk_L_law_1784 : z_blk 250 1784 = [(15, 4, 6, 0, 1784), (54, 23, 0, 0, 1787)] := rfl
set_option maxRecDepth 20000 in
theorem zk_L_law_1790 : z_blk 250 1790 = [(5, 1, 0, 0, 1790), (72, 0, 0, 0, 1791)] := rfl
theorem ze_L_law (w0 : Value) (G : zG) (M : zM) : z_call 250 [w0] G M = z_ex 250 (z_blk 250 0) [w0, .null, .null, .null, .null, .null, .null] [] G M := rfl
end
section
/-! ===== the reference's small methods ===== -/
def z_b (b : Bool) : Int32 := if b = true then nI 1 else nI 0
theorem z_bt : z_b true = nI 1 := rfl
theorem z_bf : z_b false = nI 0 := rfl
theorem z_b0 (b : Bool) : (z_b b = 0) = (b = false) := by cases b <;> simp [z_b] <;> decide
theorem z_b01 (b : Bool) : z_b b = 0 ∨ z_b b = 1 := by cases b <;> simp [z_b] <;> decide
theorem xo_72z (m a b c pc : Nat) (ops : List zO) (ls : List Value) (G : zG) (M : zM) (q : Bool) : z_ex m ((72, a, b, c, pc) :: ops) ls [.int (z_b q)] G M = some (.inl (some (.int (z_b q))), G, M) := xo_72 m a b c pc ops ls G M _ (z_b01 q)
theorem z_bi (p : Prop) [Decidable p] {α : Type} (f : Int32 → α) : (if p then f (nI 1) else f (nI 0)) = f (z_b (decide p)) := by by_cases h : p <;> simp [h, z_b]
/-- where the reference lies, and its rows -/
def z_HM (G : zG) : Prop := z_kd G 455 = (0, 7) ∧ (z_rf G 455 1 = 456 ∧ z_rf G 455 8 = 457 ∧ z_rf G 455 9 = 458 ∧ z_rf G 455 10 = 459 ∧ z_rf G 455 11 = 460 ∧ z_rf G 455 12 = 461 ∧ z_rf G 455 13 = 462 ∧ z_rf G 455 17 = 471) ∧
  ((z_kd G 456).1 = 1 ∧ (z_kd G 456).2 = 3) ∧ ((z_kd G 457).1 = 1 ∧ (z_kd G 457).2 = 200) ∧ ((z_kd G 458).1 = 1 ∧ (z_kd G 458).2 = 4326) ∧ ((z_kd G 459).1 = 1 ∧ (z_kd G 459).2 = 4326) ∧ ((z_kd G 460).1 = 1 ∧ (z_kd G 460).2 = 4326) ∧ ((z_kd G 461).1 = 1 ∧ (z_kd G 461).2 = 4326) ∧ ((z_kd G 471).1 = 1 ∧ (z_kd G 471).2 = 13) ∧
  ((z_kd G 462).1 = 5 ∧ (z_kd G 462).2 = 8) ∧ ∀ k, k < 8 → z_rf G 462 k = 463 + k ∧ (z_kd G (463 + k)).1 = 1 ∧ (z_kd G (463 + k)).2 = 4326
def zf_has (set k : Int32) : Bool := decide ((set >>> (k &&& 31)) &&& nI 1 = nI 1)
theorem c_M_has (set k : Int32) (G : zG) (M : zM) : z_call 175 [.int set, .int k] G M = some (.inl (some (.int (z_b (zf_has set k)))), G, M) := by
  simp only [ze_M_has, zk_M_has_0, xo_0_0, xo_0_1, xo_27, xo_5, xo_23, xo_43, zk_M_has_9, xo_54, zk_M_has_13, xo_55, zk_M_has_14, xo_72a, xo_72b]
  unfold zf_has
  split <;> rename_i h <;> simp [h, z_b]
def zf_in (v lo hi : Int32) : Bool := decide (¬ v < lo ∧ ¬ hi < v)
theorem c_M_in (v lo hi : Int32) (G : zG) (M : zM) : z_call 162 [.int v, .int lo, .int hi] G M = some (.inl (some (.int (z_b (zf_in v lo hi)))), G, M) := by
  simp only [ze_M_in, zk_M_in_0, xo_0_0, xo_0_1, xo_44, zk_M_in_5, xo_0_2, xo_46, zk_M_in_10, xo_5, xo_54, zk_M_in_14, xo_55, zk_M_in_15, xo_72a, xo_72b]
  unfold zf_in
  by_cases h1 : v < lo <;> by_cases h2 : hi < v <;> simp [h1, h2, z_b]
theorem c_M_m (i k : Nat) (G : zG) (M : zM) : z_call 155 [.int (nI i), .int (nI k)] G M = some (.inl (some (.int (nI (41 + 28 * i + k)))), G, M) := by
  simp only [ze_M_m, zk_M_m_0, xo_6, xo_0_0, xo_22, xo_20, xo_0_1, xo_70, nI_add, pk_mul, Nat.add_zero, z_sA_s, z_sA_sA, z_u_s]
theorem c_M_less (x y : Int32) (G : zG) (M : zM) : z_call 172 [.int x, .int y] G M = some (.inl (some (.int (if x < y then x else y))), G, M) := by
  simp only [ze_M_less, zk_M_less_0, xo_0_0, xo_0_1, xo_45, zk_M_less_5, xo_54, zk_M_less_9, xo_55, zk_M_less_10, xo_70]
  split <;> rfl
theorem c_M_more (x y : Int32) (G : zG) (M : zM) : z_call 194 [.int x, .int y] G M = some (.inl (some (.int (if y < x then x else y))), G, M) := by
  simp only [ze_M_more, zk_M_more_0, xo_0_0, xo_0_1, xo_47, zk_M_more_5, xo_54, zk_M_more_9, xo_55, zk_M_more_10, xo_70]
  split <;> rfl
theorem c_M_isDown {G : zG} (hM : z_HM G) (M : zM) {i : Nat} (hi : i < 8) : z_call 186 [.ref 455, .int (nI i)] G M = some (.inl (some (.int (z_b (decide (M 458 (41 + 28 * i) = nI 2))))), G, M) := by
  obtain ⟨k0, ⟨r1, r8, r9, r10, r11, r12, r13, r17⟩, ⟨q1, q2⟩, ⟨q3, q4⟩, ⟨q5, q6⟩, ⟨q7, q8⟩, ⟨q9, q10⟩, ⟨q11, q12⟩, ⟨q13, q14⟩, ⟨q15, q16⟩, hp⟩ := hM
  simp (disch := first | assumption | omega | exact Nat.le_of_ble_eq_true rfl) only [ze_M_isDown, zk_M_isDown_0, xo_2_0, xo_17, xo_0_1, xo_5, xo_63_2, xk_v, xk_n, xo_32, xo_43, zk_M_isDown_14, xo_54, zk_M_isDown_18, xo_55, zk_M_isDown_19, xo_72a, xo_72b, nI_add, pk_mul, Nat.add_zero, z_sA_s, z_sA_sA, z_u_s, r9, c_M_m]
  split <;> rename_i h <;> simp [h, z_b]
theorem c_M_phase {G : zG} (hM : z_HM G) (M : zM) {i : Nat} (hi : i < 8) (ph be : Int32) : z_call 158 [.ref 455, .int (nI i), .int ph, .int be] G M = some (.inl none, G, z_sA M 458 (z_u (z_u (M 458) (41 + 28 * i + 6) ph) (41 + 28 * i + 7) (M 458 6 + be))) := by
  obtain ⟨k0, ⟨r1, r8, r9, r10, r11, r12, r13, r17⟩, ⟨q1, q2⟩, ⟨q3, q4⟩, ⟨q5, q6⟩, ⟨q7, q8⟩, ⟨q9, q10⟩, ⟨q11, q12⟩, ⟨q13, q14⟩, ⟨q15, q16⟩, hp⟩ := hM
  simp (disch := first | assumption | omega | exact Nat.le_of_ble_eq_true rfl) only [ze_M_phase, zk_M_phase_0, xo_2_0, xo_17, xo_0_1, xo_6, xo_63_2, xk_v, xk_n, xo_0_2, xo_33, xo_32, xo_0_3, xo_20, xo_69, nI_add, pk_mul, Nat.add_zero, z_sA_s, z_sA_sA, z_u_s, r9, c_M_m, z_u_n]
end
